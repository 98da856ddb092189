theorem dlw_2551 : decode code 2551 = .ok (.invokevirtual 290, 3) := by decide +kernel
theorem dlw_2554 : decode code 2554 = .ok (.aload_n 2, 1) := by decide +kernel
theorem dlw_2555 : decode code 2555 = .ok (.invokevirtual 293, 3) := by decide +kernel
theorem dlw_2558 : decode code 2558 = .ok (.if_icmp .eq 629, 3) := by decide +kernel
theorem dlw_2561 : decode code 2561 = .ok (.iconst 0, 1) := by decide +kernel
theorem dlw_2562 : decode code 2562 = .ok (.ireturn, 1) := by decide +kernel
theorem dlw_2563 : decode code 2563 = .ok (.aload_n 1, 1) := by decide +kernel
theorem dlw_2564 : decode code 2564 = .ok (.aload_n 0, 1) := by decide +kernel
theorem dlw_2565 : decode code 2565 = .ok (.iload 4, 2) := by decide +kernel
theorem dlw_2567 : decode code 2567 = .ok (.iconst 1, 1) := by decide +kernel
theorem dlw_2568 : decode code 2568 = .ok (.iadd, 1) := by decide +kernel
theorem dlw_2569 : decode code 2569 = .ok (.iaload, 1) := by decide +kernel
theorem dlw_2570 : decode code 2570 = .ok (.aload_n 0, 1) := by decide +kernel
theorem dlw_2571 : decode code 2571 = .ok (.iload 4, 2) := by decide +kernel
theorem dlw_2573 : decode code 2573 = .ok (.iconst 2, 1) := by decide +kernel
theorem dlw_2574 : decode code 2574 = .ok (.iadd, 1) := by decide +kernel
theorem dlw_2575 : decode code 2575 = .ok (.iaload, 1) := by decide +kernel
theorem dlw_2576 : decode code 2576 = .ok (.aload_n 3, 1) := by decide +kernel
theorem dlw_2577 : decode code 2577 = .ok (.invokestatic 294, 3) := by decide +kernel
theorem dlw_2580 : decode code 2580 = .ok (.istore 5, 2) := by decide +kernel
theorem dlw_2582 : decode code 2582 = .ok (.aload_n 2, 1) := by decide +kernel
theorem dlw_2583 : decode code 2583 = .ok (.aload_n 0, 1) := by decide +kernel
theorem dlw_2584 : decode code 2584 = .ok (.iload 4, 2) := by decide +kernel
theorem dlw_2586 : decode code 2586 = .ok (.iconst 1, 1) := by decide +kernel
theorem dlw_2587 : decode code 2587 = .ok (.iadd, 1) := by decide +kernel
theorem dlw_2588 : decode code 2588 = .ok (.iaload, 1) := by decide +kernel
theorem dlw_2589 : decode code 2589 = .ok (.aload_n 0, 1) := by decide +kernel
theorem dlw_2590 : decode code 2590 = .ok (.iload 4, 2) := by decide +kernel
theorem dlw_2592 : decode code 2592 = .ok (.iconst 2, 1) := by decide +kernel
theorem dlw_2593 : decode code 2593 = .ok (.iadd, 1) := by decide +kernel
theorem dlw_2594 : decode code 2594 = .ok (.iaload, 1) := by decide +kernel
theorem dlw_2595 : decode code 2595 = .ok (.invokevirtual 296, 3) := by decide +kernel
theorem dlw_2598 : decode code 2598 = .ok (.istore 6, 2) := by decide +kernel
theorem dlw_2600 : decode code 2600 = .ok (.aload_n 2, 1) := by decide +kernel
theorem dlw_2601 : decode code 2601 = .ok (.invokevirtual 170, 3) := by decide +kernel
theorem dlw_2604 : decode code 2604 = .ok (.iload 5, 2) := by decide +kernel
theorem dlw_2606 : decode code 2606 = .ok (.if_icmp .eq 5, 3) := by decide +kernel
theorem dlw_2609 : decode code 2609 = .ok (.iconst 0, 1) := by decide +kernel
theorem dlw_2610 : decode code 2610 = .ok (.ireturn, 1) := by decide +kernel
theorem dlw_2611 : decode code 2611 = .ok (.iload 5, 2) := by decide +kernel
theorem dlw_2613 : decode code 2613 = .ok (.ifCond .ne 15, 3) := by decide +kernel
theorem dlw_2616 : decode code 2616 = .ok (.aload_n 3, 1) := by decide +kernel
theorem dlw_2617 : decode code 2617 = .ok (.iconst 0, 1) := by decide +kernel
theorem dlw_2618 : decode code 2618 = .ok (.laload, 1) := by decide +kernel
theorem dlw_2619 : decode code 2619 = .ok (.iload 6, 2) := by decide +kernel
theorem dlw_2621 : decode code 2621 = .ok (.i2l, 1) := by decide +kernel
theorem dlw_2622 : decode code 2622 = .ok (.lcmp, 1) := by decide +kernel
theorem dlw_2623 : decode code 2623 = .ok (.ifCond .eq 5, 3) := by decide +kernel
theorem dlw_2626 : decode code 2626 = .ok (.iconst 0, 1) := by decide +kernel
theorem dlw_2627 : decode code 2627 = .ok (.ireturn, 1) := by decide +kernel
theorem dlw_2628 : decode code 2628 = .ok (.goto 559, 3) := by decide +kernel
theorem dlw_2631 : decode code 2631 = .ok (.aload_n 1, 1) := by decide +kernel
theorem dlw_2632 : decode code 2632 = .ok (.aload_n 0, 1) := by decide +kernel
theorem dlw_2633 : decode code 2633 = .ok (.iload 4, 2) := by decide +kernel
theorem dlw_2635 : decode code 2635 = .ok (.iconst 1, 1) := by decide +kernel
theorem dlw_2636 : decode code 2636 = .ok (.iadd, 1) := by decide +kernel
theorem dlw_2637 : decode code 2637 = .ok (.iaload, 1) := by decide +kernel
theorem dlw_2638 : decode code 2638 = .ok (.aload_n 0, 1) := by decide +kernel
theorem dlw_2639 : decode code 2639 = .ok (.iload 4, 2) := by decide +kernel
theorem dlw_2641 : decode code 2641 = .ok (.iconst 2, 1) := by decide +kernel
theorem dlw_2642 : decode code 2642 = .ok (.iadd, 1) := by decide +kernel
theorem dlw_2643 : decode code 2643 = .ok (.iaload, 1) := by decide +kernel
theorem dlw_2644 : decode code 2644 = .ok (.aload_n 3, 1) := by decide +kernel
theorem dlw_2645 : decode code 2645 = .ok (.invokestatic 297, 3) := by decide +kernel
theorem dlw_2648 : decode code 2648 = .ok (.istore 5, 2) := by decide +kernel
theorem dlw_2650 : decode code 2650 = .ok (.aload_n 2, 1) := by decide +kernel
theorem dlw_2651 : decode code 2651 = .ok (.aload_n 0, 1) := by decide +kernel
theorem dlw_2652 : decode code 2652 = .ok (.iload 4, 2) := by decide +kernel
theorem dlw_2654 : decode code 2654 = .ok (.iconst 1, 1) := by decide +kernel
theorem dlw_2655 : decode code 2655 = .ok (.iadd, 1) := by decide +kernel
theorem dlw_2656 : decode code 2656 = .ok (.iaload, 1) := by decide +kernel
theorem dlw_2657 : decode code 2657 = .ok (.aload_n 0, 1) := by decide +kernel
theorem dlw_2658 : decode code 2658 = .ok (.iload 4, 2) := by decide +kernel
theorem dlw_2660 : decode code 2660 = .ok (.iconst 2, 1) := by decide +kernel
theorem dlw_2661 : decode code 2661 = .ok (.iadd, 1) := by decide +kernel
theorem dlw_2662 : decode code 2662 = .ok (.iaload, 1) := by decide +kernel
theorem dlw_2663 : decode code 2663 = .ok (.invokevirtual 299, 3) := by decide +kernel
theorem dlw_2666 : decode code 2666 = .ok (.istore 6, 2) := by decide +kernel
theorem dlw_2668 : decode code 2668 = .ok (.aload_n 2, 1) := by decide +kernel
theorem dlw_2669 : decode code 2669 = .ok (.invokevirtual 170, 3) := by decide +kernel
theorem dlw_2672 : decode code 2672 = .ok (.iload 5, 2) := by decide +kernel
theorem dlw_2674 : decode code 2674 = .ok (.if_icmp .eq 5, 3) := by decide +kernel
theorem dlw_2677 : decode code 2677 = .ok (.iconst 0, 1) := by decide +kernel
theorem dlw_2678 : decode code 2678 = .ok (.ireturn, 1) := by decide +kernel
theorem dlw_2679 : decode code 2679 = .ok (.iload 5, 2) := by decide +kernel
theorem dlw_2681 : decode code 2681 = .ok (.ifCond .ne 15, 3) := by decide +kernel
theorem dlw_2684 : decode code 2684 = .ok (.aload_n 3, 1) := by decide +kernel
theorem dlw_2685 : decode code 2685 = .ok (.iconst 0, 1) := by decide +kernel
theorem dlw_2686 : decode code 2686 = .ok (.laload, 1) := by decide +kernel
theorem dlw_2687 : decode code 2687 = .ok (.iload 6, 2) := by decide +kernel
theorem dlw_2689 : decode code 2689 = .ok (.i2l, 1) := by decide +kernel
theorem dlw_2690 : decode code 2690 = .ok (.lcmp, 1) := by decide +kernel
theorem dlw_2691 : decode code 2691 = .ok (.ifCond .eq 5, 3) := by decide +kernel
theorem dlw_2694 : decode code 2694 = .ok (.iconst 0, 1) := by decide +kernel
theorem dlw_2695 : decode code 2695 = .ok (.ireturn, 1) := by decide +kernel
theorem dlw_2696 : decode code 2696 = .ok (.goto 491, 3) := by decide +kernel
theorem dlw_2699 : decode code 2699 = .ok (.aload_n 1, 1) := by decide +kernel
theorem dlw_2700 : decode code 2700 = .ok (.aload_n 0, 1) := by decide +kernel
theorem dlw_2701 : decode code 2701 = .ok (.iload 4, 2) := by decide +kernel
theorem dlw_2703 : decode code 2703 = .ok (.iconst 1, 1) := by decide +kernel
theorem dlw_2704 : decode code 2704 = .ok (.iadd, 1) := by decide +kernel
theorem dlw_2705 : decode code 2705 = .ok (.iaload, 1) := by decide +kernel
theorem dlw_2706 : decode code 2706 = .ok (.aload_n 3, 1) := by decide +kernel
theorem dlw_2707 : decode code 2707 = .ok (.invokestatic 300, 3) := by decide +kernel
theorem dlw_2710 : decode code 2710 = .ok (.istore 5, 2) := by decide +kernel
theorem dlw_2712 : decode code 2712 = .ok (.aload_n 2, 1) := by decide +kernel
theorem dlw_2713 : decode code 2713 = .ok (.aload_n 0, 1) := by decide +kernel
theorem dlw_2714 : decode code 2714 = .ok (.iload 4, 2) := by decide +kernel
theorem dlw_2716 : decode code 2716 = .ok (.iconst 1, 1) := by decide +kernel
theorem dlw_2717 : decode code 2717 = .ok (.iadd, 1) := by decide +kernel
theorem dlw_2718 : decode code 2718 = .ok (.iaload, 1) := by decide +kernel
theorem dlw_2719 : decode code 2719 = .ok (.invokevirtual 302, 3) := by decide +kernel
theorem dlw_2722 : decode code 2722 = .ok (.istore 6, 2) := by decide +kernel
theorem dlw_2724 : decode code 2724 = .ok (.aload_n 2, 1) := by decide +kernel
theorem dlw_2725 : decode code 2725 = .ok (.invokevirtual 170, 3) := by decide +kernel
theorem dlw_2728 : decode code 2728 = .ok (.iload 5, 2) := by decide +kernel
theorem dlw_2730 : decode code 2730 = .ok (.if_icmp .eq 5, 3) := by decide +kernel
theorem dlw_2733 : decode code 2733 = .ok (.iconst 0, 1) := by decide +kernel
theorem dlw_2734 : decode code 2734 = .ok (.ireturn, 1) := by decide +kernel
theorem dlw_2735 : decode code 2735 = .ok (.iload 5, 2) := by decide +kernel
theorem dlw_2737 : decode code 2737 = .ok (.ifCond .ne 15, 3) := by decide +kernel
theorem dlw_2740 : decode code 2740 = .ok (.aload_n 3, 1) := by decide +kernel
theorem dlw_2741 : decode code 2741 = .ok (.iconst 0, 1) := by decide +kernel
theorem dlw_2742 : decode code 2742 = .ok (.laload, 1) := by decide +kernel
theorem dlw_2743 : decode code 2743 = .ok (.iload 6, 2) := by decide +kernel
theorem dlw_2745 : decode code 2745 = .ok (.i2l, 1) := by decide +kernel
theorem dlw_2746 : decode code 2746 = .ok (.lcmp, 1) := by decide +kernel
theorem dlw_2747 : decode code 2747 = .ok (.ifCond .eq 5, 3) := by decide +kernel
theorem dlw_2750 : decode code 2750 = .ok (.iconst 0, 1) := by decide +kernel
theorem dlw_2751 : decode code 2751 = .ok (.ireturn, 1) := by decide +kernel
theorem dlw_2752 : decode code 2752 = .ok (.goto 435, 3) := by decide +kernel
theorem dlw_2755 : decode code 2755 = .ok (.aload_n 1, 1) := by decide +kernel
theorem dlw_2756 : decode code 2756 = .ok (.aload_n 0, 1) := by decide +kernel
theorem dlw_2757 : decode code 2757 = .ok (.iload 4, 2) := by decide +kernel
theorem dlw_2759 : decode code 2759 = .ok (.iconst 1, 1) := by decide +kernel
theorem dlw_2760 : decode code 2760 = .ok (.iadd, 1) := by decide +kernel
theorem dlw_2761 : decode code 2761 = .ok (.iaload, 1) := by decide +kernel
theorem dlw_2762 : decode code 2762 = .ok (.aload_n 3, 1) := by decide +kernel
theorem dlw_2763 : decode code 2763 = .ok (.invokestatic 303, 3) := by decide +kernel
theorem dlw_2766 : decode code 2766 = .ok (.istore 5, 2) := by decide +kernel
theorem dlw_2768 : decode code 2768 = .ok (.aload_n 2, 1) := by decide +kernel
theorem dlw_2769 : decode code 2769 = .ok (.aload_n 0, 1) := by decide +kernel
theorem dlw_2770 : decode code 2770 = .ok (.iload 4, 2) := by decide +kernel
theorem dlw_2772 : decode code 2772 = .ok (.iconst 1, 1) := by decide +kernel
theorem dlw_2773 : decode code 2773 = .ok (.iadd, 1) := by decide +kernel
theorem dlw_2774 : decode code 2774 = .ok (.iaload, 1) := by decide +kernel
theorem dlw_2775 : decode code 2775 = .ok (.invokevirtual 305, 3) := by decide +kernel
theorem dlw_2778 : decode code 2778 = .ok (.istore 6, 2) := by decide +kernel
theorem dlw_2780 : decode code 2780 = .ok (.aload_n 2, 1) := by decide +kernel
theorem dlw_2781 : decode code 2781 = .ok (.invokevirtual 170, 3) := by decide +kernel
