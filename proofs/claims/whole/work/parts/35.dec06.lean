theorem dlw_1621 : decode code 1621 = .ok (.aload_n 3, 1) := by decide +kernel
theorem dlw_1622 : decode code 1622 = .ok (.invokestatic 245, 3) := by decide +kernel
theorem dlw_1625 : decode code 1625 = .ok (.istore 5, 2) := by decide +kernel
theorem dlw_1627 : decode code 1627 = .ok (.aload_n 2, 1) := by decide +kernel
theorem dlw_1628 : decode code 1628 = .ok (.aload_n 0, 1) := by decide +kernel
theorem dlw_1629 : decode code 1629 = .ok (.iload 4, 2) := by decide +kernel
theorem dlw_1631 : decode code 1631 = .ok (.iconst 1, 1) := by decide +kernel
theorem dlw_1632 : decode code 1632 = .ok (.iadd, 1) := by decide +kernel
theorem dlw_1633 : decode code 1633 = .ok (.iaload, 1) := by decide +kernel
theorem dlw_1634 : decode code 1634 = .ok (.invokevirtual 247, 3) := by decide +kernel
theorem dlw_1637 : decode code 1637 = .ok (.istore 6, 2) := by decide +kernel
theorem dlw_1639 : decode code 1639 = .ok (.aload_n 2, 1) := by decide +kernel
theorem dlw_1640 : decode code 1640 = .ok (.invokevirtual 170, 3) := by decide +kernel
theorem dlw_1643 : decode code 1643 = .ok (.iload 5, 2) := by decide +kernel
theorem dlw_1645 : decode code 1645 = .ok (.if_icmp .eq 5, 3) := by decide +kernel
theorem dlw_1648 : decode code 1648 = .ok (.iconst 0, 1) := by decide +kernel
theorem dlw_1649 : decode code 1649 = .ok (.ireturn, 1) := by decide +kernel
theorem dlw_1650 : decode code 1650 = .ok (.iload 5, 2) := by decide +kernel
theorem dlw_1652 : decode code 1652 = .ok (.ifCond .ne 15, 3) := by decide +kernel
theorem dlw_1655 : decode code 1655 = .ok (.aload_n 3, 1) := by decide +kernel
theorem dlw_1656 : decode code 1656 = .ok (.iconst 0, 1) := by decide +kernel
theorem dlw_1657 : decode code 1657 = .ok (.laload, 1) := by decide +kernel
theorem dlw_1658 : decode code 1658 = .ok (.iload 6, 2) := by decide +kernel
theorem dlw_1660 : decode code 1660 = .ok (.i2l, 1) := by decide +kernel
theorem dlw_1661 : decode code 1661 = .ok (.lcmp, 1) := by decide +kernel
theorem dlw_1662 : decode code 1662 = .ok (.ifCond .eq 5, 3) := by decide +kernel
theorem dlw_1665 : decode code 1665 = .ok (.iconst 0, 1) := by decide +kernel
theorem dlw_1666 : decode code 1666 = .ok (.ireturn, 1) := by decide +kernel
theorem dlw_1667 : decode code 1667 = .ok (.goto 1520, 3) := by decide +kernel
theorem dlw_1670 : decode code 1670 = .ok (.aload_n 1, 1) := by decide +kernel
theorem dlw_1671 : decode code 1671 = .ok (.aload_n 0, 1) := by decide +kernel
theorem dlw_1672 : decode code 1672 = .ok (.iload 4, 2) := by decide +kernel
theorem dlw_1674 : decode code 1674 = .ok (.iconst 1, 1) := by decide +kernel
theorem dlw_1675 : decode code 1675 = .ok (.iadd, 1) := by decide +kernel
theorem dlw_1676 : decode code 1676 = .ok (.iaload, 1) := by decide +kernel
theorem dlw_1677 : decode code 1677 = .ok (.aload_n 3, 1) := by decide +kernel
theorem dlw_1678 : decode code 1678 = .ok (.invokestatic 248, 3) := by decide +kernel
theorem dlw_1681 : decode code 1681 = .ok (.istore 5, 2) := by decide +kernel
theorem dlw_1683 : decode code 1683 = .ok (.aload_n 2, 1) := by decide +kernel
theorem dlw_1684 : decode code 1684 = .ok (.aload_n 0, 1) := by decide +kernel
theorem dlw_1685 : decode code 1685 = .ok (.iload 4, 2) := by decide +kernel
theorem dlw_1687 : decode code 1687 = .ok (.iconst 1, 1) := by decide +kernel
theorem dlw_1688 : decode code 1688 = .ok (.iadd, 1) := by decide +kernel
theorem dlw_1689 : decode code 1689 = .ok (.iaload, 1) := by decide +kernel
theorem dlw_1690 : decode code 1690 = .ok (.invokevirtual 250, 3) := by decide +kernel
theorem dlw_1693 : decode code 1693 = .ok (.istore 6, 2) := by decide +kernel
theorem dlw_1695 : decode code 1695 = .ok (.aload_n 2, 1) := by decide +kernel
theorem dlw_1696 : decode code 1696 = .ok (.invokevirtual 170, 3) := by decide +kernel
theorem dlw_1699 : decode code 1699 = .ok (.iload 5, 2) := by decide +kernel
theorem dlw_1701 : decode code 1701 = .ok (.if_icmp .eq 5, 3) := by decide +kernel
theorem dlw_1704 : decode code 1704 = .ok (.iconst 0, 1) := by decide +kernel
theorem dlw_1705 : decode code 1705 = .ok (.ireturn, 1) := by decide +kernel
theorem dlw_1706 : decode code 1706 = .ok (.iload 5, 2) := by decide +kernel
theorem dlw_1708 : decode code 1708 = .ok (.ifCond .ne 15, 3) := by decide +kernel
theorem dlw_1711 : decode code 1711 = .ok (.aload_n 3, 1) := by decide +kernel
theorem dlw_1712 : decode code 1712 = .ok (.iconst 0, 1) := by decide +kernel
theorem dlw_1713 : decode code 1713 = .ok (.laload, 1) := by decide +kernel
theorem dlw_1714 : decode code 1714 = .ok (.iload 6, 2) := by decide +kernel
theorem dlw_1716 : decode code 1716 = .ok (.i2l, 1) := by decide +kernel
theorem dlw_1717 : decode code 1717 = .ok (.lcmp, 1) := by decide +kernel
theorem dlw_1718 : decode code 1718 = .ok (.ifCond .eq 5, 3) := by decide +kernel
theorem dlw_1721 : decode code 1721 = .ok (.iconst 0, 1) := by decide +kernel
theorem dlw_1722 : decode code 1722 = .ok (.ireturn, 1) := by decide +kernel
theorem dlw_1723 : decode code 1723 = .ok (.goto 1464, 3) := by decide +kernel
theorem dlw_1726 : decode code 1726 = .ok (.aload_n 1, 1) := by decide +kernel
theorem dlw_1727 : decode code 1727 = .ok (.aload_n 0, 1) := by decide +kernel
theorem dlw_1728 : decode code 1728 = .ok (.iload 4, 2) := by decide +kernel
theorem dlw_1730 : decode code 1730 = .ok (.iconst 1, 1) := by decide +kernel
theorem dlw_1731 : decode code 1731 = .ok (.iadd, 1) := by decide +kernel
theorem dlw_1732 : decode code 1732 = .ok (.iaload, 1) := by decide +kernel
theorem dlw_1733 : decode code 1733 = .ok (.aload_n 3, 1) := by decide +kernel
theorem dlw_1734 : decode code 1734 = .ok (.invokestatic 251, 3) := by decide +kernel
theorem dlw_1737 : decode code 1737 = .ok (.istore 5, 2) := by decide +kernel
theorem dlw_1739 : decode code 1739 = .ok (.aload_n 2, 1) := by decide +kernel
theorem dlw_1740 : decode code 1740 = .ok (.aload_n 0, 1) := by decide +kernel
theorem dlw_1741 : decode code 1741 = .ok (.iload 4, 2) := by decide +kernel
theorem dlw_1743 : decode code 1743 = .ok (.iconst 1, 1) := by decide +kernel
theorem dlw_1744 : decode code 1744 = .ok (.iadd, 1) := by decide +kernel
theorem dlw_1745 : decode code 1745 = .ok (.iaload, 1) := by decide +kernel
theorem dlw_1746 : decode code 1746 = .ok (.invokevirtual 253, 3) := by decide +kernel
theorem dlw_1749 : decode code 1749 = .ok (.istore 6, 2) := by decide +kernel
theorem dlw_1751 : decode code 1751 = .ok (.aload_n 2, 1) := by decide +kernel
theorem dlw_1752 : decode code 1752 = .ok (.invokevirtual 170, 3) := by decide +kernel
theorem dlw_1755 : decode code 1755 = .ok (.iload 5, 2) := by decide +kernel
theorem dlw_1757 : decode code 1757 = .ok (.if_icmp .eq 5, 3) := by decide +kernel
theorem dlw_1760 : decode code 1760 = .ok (.iconst 0, 1) := by decide +kernel
theorem dlw_1761 : decode code 1761 = .ok (.ireturn, 1) := by decide +kernel
theorem dlw_1762 : decode code 1762 = .ok (.iload 5, 2) := by decide +kernel
theorem dlw_1764 : decode code 1764 = .ok (.ifCond .ne 15, 3) := by decide +kernel
theorem dlw_1767 : decode code 1767 = .ok (.aload_n 3, 1) := by decide +kernel
theorem dlw_1768 : decode code 1768 = .ok (.iconst 0, 1) := by decide +kernel
theorem dlw_1769 : decode code 1769 = .ok (.laload, 1) := by decide +kernel
theorem dlw_1770 : decode code 1770 = .ok (.iload 6, 2) := by decide +kernel
theorem dlw_1772 : decode code 1772 = .ok (.i2l, 1) := by decide +kernel
theorem dlw_1773 : decode code 1773 = .ok (.lcmp, 1) := by decide +kernel
theorem dlw_1774 : decode code 1774 = .ok (.ifCond .eq 5, 3) := by decide +kernel
theorem dlw_1777 : decode code 1777 = .ok (.iconst 0, 1) := by decide +kernel
theorem dlw_1778 : decode code 1778 = .ok (.ireturn, 1) := by decide +kernel
theorem dlw_1779 : decode code 1779 = .ok (.goto 1408, 3) := by decide +kernel
theorem dlw_1782 : decode code 1782 = .ok (.aload_n 1, 1) := by decide +kernel
theorem dlw_1783 : decode code 1783 = .ok (.aload_n 0, 1) := by decide +kernel
theorem dlw_1784 : decode code 1784 = .ok (.iload 4, 2) := by decide +kernel
theorem dlw_1786 : decode code 1786 = .ok (.iconst 1, 1) := by decide +kernel
theorem dlw_1787 : decode code 1787 = .ok (.iadd, 1) := by decide +kernel
theorem dlw_1788 : decode code 1788 = .ok (.iaload, 1) := by decide +kernel
theorem dlw_1789 : decode code 1789 = .ok (.aload_n 0, 1) := by decide +kernel
theorem dlw_1790 : decode code 1790 = .ok (.iload 4, 2) := by decide +kernel
theorem dlw_1792 : decode code 1792 = .ok (.iconst 2, 1) := by decide +kernel
theorem dlw_1793 : decode code 1793 = .ok (.iadd, 1) := by decide +kernel
theorem dlw_1794 : decode code 1794 = .ok (.iaload, 1) := by decide +kernel
theorem dlw_1795 : decode code 1795 = .ok (.aload_n 0, 1) := by decide +kernel
theorem dlw_1796 : decode code 1796 = .ok (.iload 4, 2) := by decide +kernel
theorem dlw_1798 : decode code 1798 = .ok (.iconst 3, 1) := by decide +kernel
theorem dlw_1799 : decode code 1799 = .ok (.iadd, 1) := by decide +kernel
theorem dlw_1800 : decode code 1800 = .ok (.iaload, 1) := by decide +kernel
theorem dlw_1801 : decode code 1801 = .ok (.aload_n 3, 1) := by decide +kernel
theorem dlw_1802 : decode code 1802 = .ok (.invokestatic 254, 3) := by decide +kernel
theorem dlw_1805 : decode code 1805 = .ok (.istore 5, 2) := by decide +kernel
theorem dlw_1807 : decode code 1807 = .ok (.aload_n 2, 1) := by decide +kernel
theorem dlw_1808 : decode code 1808 = .ok (.aload_n 0, 1) := by decide +kernel
theorem dlw_1809 : decode code 1809 = .ok (.iload 4, 2) := by decide +kernel
theorem dlw_1811 : decode code 1811 = .ok (.iconst 1, 1) := by decide +kernel
theorem dlw_1812 : decode code 1812 = .ok (.iadd, 1) := by decide +kernel
theorem dlw_1813 : decode code 1813 = .ok (.iaload, 1) := by decide +kernel
theorem dlw_1814 : decode code 1814 = .ok (.aload_n 0, 1) := by decide +kernel
theorem dlw_1815 : decode code 1815 = .ok (.iload 4, 2) := by decide +kernel
theorem dlw_1817 : decode code 1817 = .ok (.iconst 2, 1) := by decide +kernel
theorem dlw_1818 : decode code 1818 = .ok (.iadd, 1) := by decide +kernel
theorem dlw_1819 : decode code 1819 = .ok (.iaload, 1) := by decide +kernel
theorem dlw_1820 : decode code 1820 = .ok (.aload_n 0, 1) := by decide +kernel
theorem dlw_1821 : decode code 1821 = .ok (.iload 4, 2) := by decide +kernel
theorem dlw_1823 : decode code 1823 = .ok (.iconst 3, 1) := by decide +kernel
theorem dlw_1824 : decode code 1824 = .ok (.iadd, 1) := by decide +kernel
theorem dlw_1825 : decode code 1825 = .ok (.iaload, 1) := by decide +kernel
theorem dlw_1826 : decode code 1826 = .ok (.invokevirtual 256, 3) := by decide +kernel
theorem dlw_1829 : decode code 1829 = .ok (.istore 6, 2) := by decide +kernel
theorem dlw_1831 : decode code 1831 = .ok (.aload_n 2, 1) := by decide +kernel
theorem dlw_1832 : decode code 1832 = .ok (.invokevirtual 170, 3) := by decide +kernel
theorem dlw_1835 : decode code 1835 = .ok (.iload 5, 2) := by decide +kernel
theorem dlw_1837 : decode code 1837 = .ok (.if_icmp .eq 5, 3) := by decide +kernel
theorem dlw_1840 : decode code 1840 = .ok (.iconst 0, 1) := by decide +kernel
theorem dlw_1841 : decode code 1841 = .ok (.ireturn, 1) := by decide +kernel
theorem dlw_1842 : decode code 1842 = .ok (.iload 5, 2) := by decide +kernel
theorem dlw_1844 : decode code 1844 = .ok (.ifCond .ne 15, 3) := by decide +kernel
theorem dlw_1847 : decode code 1847 = .ok (.aload_n 3, 1) := by decide +kernel
theorem dlw_1848 : decode code 1848 = .ok (.iconst 0, 1) := by decide +kernel
theorem dlw_1849 : decode code 1849 = .ok (.laload, 1) := by decide +kernel
theorem dlw_1850 : decode code 1850 = .ok (.iload 6, 2) := by decide +kernel
theorem dlw_1852 : decode code 1852 = .ok (.i2l, 1) := by decide +kernel
theorem dlw_1853 : decode code 1853 = .ok (.lcmp, 1) := by decide +kernel
