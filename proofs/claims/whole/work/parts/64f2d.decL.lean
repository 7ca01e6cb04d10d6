theorem dL_law_2446 : decode cL_law 2446 = .ok (.dcmp .l, 1) := by decide +kernel
theorem dL_law_2447 : decode cL_law 2447 = .ok (.ifCond .eq 11, 3) := by decide +kernel
theorem dL_law_2450 : decode cL_law 2450 = .ok (.dload 8, 2) := by decide +kernel
theorem dL_law_2452 : decode cL_law 2452 = .ok (.dload 8, 2) := by decide +kernel
theorem dL_law_2454 : decode cL_law 2454 = .ok (.dcmp .l, 1) := by decide +kernel
theorem dL_law_2455 : decode cL_law 2455 = .ok (.ifCond .ne 5, 3) := by decide +kernel
theorem dL_law_2458 : decode cL_law 2458 = .ok (.iconst 0, 1) := by decide +kernel
theorem dL_law_2459 : decode cL_law 2459 = .ok (.ireturn, 1) := by decide +kernel
theorem dL_law_2460 : decode cL_law 2460 = .ok (.goto 1060, 3) := by decide +kernel
theorem dL_law_2463 : decode cL_law 2463 = .ok (.aload_n 1, 1) := by decide +kernel
theorem dL_law_2464 : decode cL_law 2464 = .ok (.invokevirtual 303, 3) := by decide +kernel
theorem dL_law_2467 : decode cL_law 2467 = .ok (.aload_n 2, 1) := by decide +kernel
theorem dL_law_2468 : decode cL_law 2468 = .ok (.invokevirtual 306, 3) := by decide +kernel
theorem dL_law_2471 : decode cL_law 2471 = .ok (.if_icmp .eq 1049, 3) := by decide +kernel
theorem dL_law_2474 : decode cL_law 2474 = .ok (.iconst 0, 1) := by decide +kernel
theorem dL_law_2475 : decode cL_law 2475 = .ok (.ireturn, 1) := by decide +kernel
theorem dL_law_2476 : decode cL_law 2476 = .ok (.aload_n 1, 1) := by decide +kernel
theorem dL_law_2477 : decode cL_law 2477 = .ok (.aload_n 0, 1) := by decide +kernel
theorem dL_law_2478 : decode cL_law 2478 = .ok (.iload 5, 2) := by decide +kernel
theorem dL_law_2480 : decode cL_law 2480 = .ok (.iconst 1, 1) := by decide +kernel
theorem dL_law_2481 : decode cL_law 2481 = .ok (.iadd, 1) := by decide +kernel
theorem dL_law_2482 : decode cL_law 2482 = .ok (.iaload, 1) := by decide +kernel
theorem dL_law_2483 : decode cL_law 2483 = .ok (.aload 4, 2) := by decide +kernel
theorem dL_law_2485 : decode cL_law 2485 = .ok (.invokestatic 307, 3) := by decide +kernel
theorem dL_law_2488 : decode cL_law 2488 = .ok (.istore 6, 2) := by decide +kernel
theorem dL_law_2490 : decode cL_law 2490 = .ok (.aload_n 2, 1) := by decide +kernel
theorem dL_law_2491 : decode cL_law 2491 = .ok (.aload_n 0, 1) := by decide +kernel
theorem dL_law_2492 : decode cL_law 2492 = .ok (.iload 5, 2) := by decide +kernel
theorem dL_law_2494 : decode cL_law 2494 = .ok (.iconst 1, 1) := by decide +kernel
theorem dL_law_2495 : decode cL_law 2495 = .ok (.iadd, 1) := by decide +kernel
theorem dL_law_2496 : decode cL_law 2496 = .ok (.iaload, 1) := by decide +kernel
theorem dL_law_2497 : decode cL_law 2497 = .ok (.invokevirtual 309, 3) := by decide +kernel
theorem dL_law_2500 : decode cL_law 2500 = .ok (.fstore 7, 2) := by decide +kernel
theorem dL_law_2502 : decode cL_law 2502 = .ok (.aload_n 2, 1) := by decide +kernel
theorem dL_law_2503 : decode cL_law 2503 = .ok (.invokevirtual 166, 3) := by decide +kernel
theorem dL_law_2506 : decode cL_law 2506 = .ok (.iload 6, 2) := by decide +kernel
theorem dL_law_2508 : decode cL_law 2508 = .ok (.if_icmp .eq 5, 3) := by decide +kernel
theorem dL_law_2511 : decode cL_law 2511 = .ok (.iconst 0, 1) := by decide +kernel
theorem dL_law_2512 : decode cL_law 2512 = .ok (.ireturn, 1) := by decide +kernel
theorem dL_law_2513 : decode cL_law 2513 = .ok (.iload 6, 2) := by decide +kernel
theorem dL_law_2515 : decode cL_law 2515 = .ok (.ifCond .ne 36, 3) := by decide +kernel
theorem dL_law_2518 : decode cL_law 2518 = .ok (.aload 4, 2) := by decide +kernel
theorem dL_law_2520 : decode cL_law 2520 = .ok (.iconst 0, 1) := by decide +kernel
theorem dL_law_2521 : decode cL_law 2521 = .ok (.daload, 1) := by decide +kernel
theorem dL_law_2522 : decode cL_law 2522 = .ok (.fload 7, 2) := by decide +kernel
theorem dL_law_2524 : decode cL_law 2524 = .ok (.f2d, 1) := by decide +kernel
theorem dL_law_2525 : decode cL_law 2525 = .ok (.dcmp .l, 1) := by decide +kernel
theorem dL_law_2526 : decode cL_law 2526 = .ok (.ifCond .eq 25, 3) := by decide +kernel
theorem dL_law_2529 : decode cL_law 2529 = .ok (.aload 4, 2) := by decide +kernel
theorem dL_law_2531 : decode cL_law 2531 = .ok (.iconst 0, 1) := by decide +kernel
theorem dL_law_2532 : decode cL_law 2532 = .ok (.daload, 1) := by decide +kernel
theorem dL_law_2533 : decode cL_law 2533 = .ok (.aload 4, 2) := by decide +kernel
theorem dL_law_2535 : decode cL_law 2535 = .ok (.iconst 0, 1) := by decide +kernel
theorem dL_law_2536 : decode cL_law 2536 = .ok (.daload, 1) := by decide +kernel
theorem dL_law_2537 : decode cL_law 2537 = .ok (.dcmp .l, 1) := by decide +kernel
theorem dL_law_2538 : decode cL_law 2538 = .ok (.ifCond .eq 11, 3) := by decide +kernel
theorem dL_law_2541 : decode cL_law 2541 = .ok (.fload 7, 2) := by decide +kernel
theorem dL_law_2543 : decode cL_law 2543 = .ok (.fload 7, 2) := by decide +kernel
theorem dL_law_2545 : decode cL_law 2545 = .ok (.fcmp .l, 1) := by decide +kernel
theorem dL_law_2546 : decode cL_law 2546 = .ok (.ifCond .ne 5, 3) := by decide +kernel
theorem dL_law_2549 : decode cL_law 2549 = .ok (.iconst 0, 1) := by decide +kernel
theorem dL_law_2550 : decode cL_law 2550 = .ok (.ireturn, 1) := by decide +kernel
theorem dL_law_2551 : decode cL_law 2551 = .ok (.goto 969, 3) := by decide +kernel
theorem dL_law_2554 : decode cL_law 2554 = .ok (.aload_n 1, 1) := by decide +kernel
theorem dL_law_2555 : decode cL_law 2555 = .ok (.aload_n 0, 1) := by decide +kernel
theorem dL_law_2556 : decode cL_law 2556 = .ok (.iload 5, 2) := by decide +kernel
theorem dL_law_2558 : decode cL_law 2558 = .ok (.iconst 1, 1) := by decide +kernel
theorem dL_law_2559 : decode cL_law 2559 = .ok (.iadd, 1) := by decide +kernel
theorem dL_law_2560 : decode cL_law 2560 = .ok (.iaload, 1) := by decide +kernel
theorem dL_law_2561 : decode cL_law 2561 = .ok (.aload_n 3, 1) := by decide +kernel
theorem dL_law_2562 : decode cL_law 2562 = .ok (.invokestatic 310, 3) := by decide +kernel
theorem dL_law_2565 : decode cL_law 2565 = .ok (.istore 6, 2) := by decide +kernel
theorem dL_law_2567 : decode cL_law 2567 = .ok (.aload_n 2, 1) := by decide +kernel
theorem dL_law_2568 : decode cL_law 2568 = .ok (.aload_n 0, 1) := by decide +kernel
theorem dL_law_2569 : decode cL_law 2569 = .ok (.iload 5, 2) := by decide +kernel
theorem dL_law_2571 : decode cL_law 2571 = .ok (.iconst 1, 1) := by decide +kernel
theorem dL_law_2572 : decode cL_law 2572 = .ok (.iadd, 1) := by decide +kernel
theorem dL_law_2573 : decode cL_law 2573 = .ok (.iaload, 1) := by decide +kernel
theorem dL_law_2574 : decode cL_law 2574 = .ok (.invokevirtual 312, 3) := by decide +kernel
theorem dL_law_2577 : decode cL_law 2577 = .ok (.istore 7, 2) := by decide +kernel
theorem dL_law_2579 : decode cL_law 2579 = .ok (.aload_n 2, 1) := by decide +kernel
theorem dL_law_2580 : decode cL_law 2580 = .ok (.invokevirtual 166, 3) := by decide +kernel
theorem dL_law_2583 : decode cL_law 2583 = .ok (.iload 6, 2) := by decide +kernel
theorem dL_law_2585 : decode cL_law 2585 = .ok (.if_icmp .eq 5, 3) := by decide +kernel
theorem dL_law_2588 : decode cL_law 2588 = .ok (.iconst 0, 1) := by decide +kernel
theorem dL_law_2589 : decode cL_law 2589 = .ok (.ireturn, 1) := by decide +kernel
theorem dL_law_2590 : decode cL_law 2590 = .ok (.iload 6, 2) := by decide +kernel
theorem dL_law_2592 : decode cL_law 2592 = .ok (.ifCond .ne 15, 3) := by decide +kernel
theorem dL_law_2595 : decode cL_law 2595 = .ok (.aload_n 3, 1) := by decide +kernel
theorem dL_law_2596 : decode cL_law 2596 = .ok (.iconst 0, 1) := by decide +kernel
theorem dL_law_2597 : decode cL_law 2597 = .ok (.laload, 1) := by decide +kernel
theorem dL_law_2598 : decode cL_law 2598 = .ok (.iload 7, 2) := by decide +kernel
theorem dL_law_2600 : decode cL_law 2600 = .ok (.i2l, 1) := by decide +kernel
theorem dL_law_2601 : decode cL_law 2601 = .ok (.lcmp, 1) := by decide +kernel
theorem dL_law_2602 : decode cL_law 2602 = .ok (.ifCond .eq 5, 3) := by decide +kernel
theorem dL_law_2605 : decode cL_law 2605 = .ok (.iconst 0, 1) := by decide +kernel
theorem dL_law_2606 : decode cL_law 2606 = .ok (.ireturn, 1) := by decide +kernel
theorem dL_law_2607 : decode cL_law 2607 = .ok (.goto 913, 3) := by decide +kernel
theorem dL_law_2610 : decode cL_law 2610 = .ok (.aload_n 1, 1) := by decide +kernel
theorem dL_law_2611 : decode cL_law 2611 = .ok (.aload_n 0, 1) := by decide +kernel
theorem dL_law_2612 : decode cL_law 2612 = .ok (.iload 5, 2) := by decide +kernel
theorem dL_law_2614 : decode cL_law 2614 = .ok (.iconst 1, 1) := by decide +kernel
theorem dL_law_2615 : decode cL_law 2615 = .ok (.iadd, 1) := by decide +kernel
theorem dL_law_2616 : decode cL_law 2616 = .ok (.iaload, 1) := by decide +kernel
theorem dL_law_2617 : decode cL_law 2617 = .ok (.aload 4, 2) := by decide +kernel
theorem dL_law_2619 : decode cL_law 2619 = .ok (.invokestatic 313, 3) := by decide +kernel
theorem dL_law_2622 : decode cL_law 2622 = .ok (.istore 6, 2) := by decide +kernel
theorem dL_law_2624 : decode cL_law 2624 = .ok (.aload_n 2, 1) := by decide +kernel
theorem dL_law_2625 : decode cL_law 2625 = .ok (.aload_n 0, 1) := by decide +kernel
theorem dL_law_2626 : decode cL_law 2626 = .ok (.iload 5, 2) := by decide +kernel
theorem dL_law_2628 : decode cL_law 2628 = .ok (.iconst 1, 1) := by decide +kernel
theorem dL_law_2629 : decode cL_law 2629 = .ok (.iadd, 1) := by decide +kernel
theorem dL_law_2630 : decode cL_law 2630 = .ok (.iaload, 1) := by decide +kernel
theorem dL_law_2631 : decode cL_law 2631 = .ok (.invokevirtual 315, 3) := by decide +kernel
theorem dL_law_2634 : decode cL_law 2634 = .ok (.fstore 7, 2) := by decide +kernel
theorem dL_law_2636 : decode cL_law 2636 = .ok (.aload_n 2, 1) := by decide +kernel
theorem dL_law_2637 : decode cL_law 2637 = .ok (.invokevirtual 166, 3) := by decide +kernel
theorem dL_law_2640 : decode cL_law 2640 = .ok (.iload 6, 2) := by decide +kernel
theorem dL_law_2642 : decode cL_law 2642 = .ok (.if_icmp .eq 5, 3) := by decide +kernel
theorem dL_law_2645 : decode cL_law 2645 = .ok (.iconst 0, 1) := by decide +kernel
theorem dL_law_2646 : decode cL_law 2646 = .ok (.ireturn, 1) := by decide +kernel
theorem dL_law_2647 : decode cL_law 2647 = .ok (.iload 6, 2) := by decide +kernel
theorem dL_law_2649 : decode cL_law 2649 = .ok (.ifCond .ne 36, 3) := by decide +kernel
theorem dL_law_2652 : decode cL_law 2652 = .ok (.aload 4, 2) := by decide +kernel
theorem dL_law_2654 : decode cL_law 2654 = .ok (.iconst 0, 1) := by decide +kernel
theorem dL_law_2655 : decode cL_law 2655 = .ok (.daload, 1) := by decide +kernel
theorem dL_law_2656 : decode cL_law 2656 = .ok (.fload 7, 2) := by decide +kernel
theorem dL_law_2658 : decode cL_law 2658 = .ok (.f2d, 1) := by decide +kernel
theorem dL_law_2659 : decode cL_law 2659 = .ok (.dcmp .l, 1) := by decide +kernel
theorem dL_law_2660 : decode cL_law 2660 = .ok (.ifCond .eq 25, 3) := by decide +kernel
theorem dL_law_2663 : decode cL_law 2663 = .ok (.aload 4, 2) := by decide +kernel
theorem dL_law_2665 : decode cL_law 2665 = .ok (.iconst 0, 1) := by decide +kernel
theorem dL_law_2666 : decode cL_law 2666 = .ok (.daload, 1) := by decide +kernel
theorem dL_law_2667 : decode cL_law 2667 = .ok (.aload 4, 2) := by decide +kernel
theorem dL_law_2669 : decode cL_law 2669 = .ok (.iconst 0, 1) := by decide +kernel
theorem dL_law_2670 : decode cL_law 2670 = .ok (.daload, 1) := by decide +kernel
theorem dL_law_2671 : decode cL_law 2671 = .ok (.dcmp .l, 1) := by decide +kernel
theorem dL_law_2672 : decode cL_law 2672 = .ok (.ifCond .eq 11, 3) := by decide +kernel
theorem dL_law_2675 : decode cL_law 2675 = .ok (.fload 7, 2) := by decide +kernel
theorem dL_law_2677 : decode cL_law 2677 = .ok (.fload 7, 2) := by decide +kernel
theorem dL_law_2679 : decode cL_law 2679 = .ok (.fcmp .l, 1) := by decide +kernel
theorem dL_law_2680 : decode cL_law 2680 = .ok (.ifCond .ne 5, 3) := by decide +kernel
theorem dL_law_2683 : decode cL_law 2683 = .ok (.iconst 0, 1) := by decide +kernel
theorem dL_law_2684 : decode cL_law 2684 = .ok (.ireturn, 1) := by decide +kernel
theorem dL_law_2685 : decode cL_law 2685 = .ok (.goto 835, 3) := by decide +kernel
theorem dL_law_2688 : decode cL_law 2688 = .ok (.aload_n 1, 1) := by decide +kernel
theorem dL_law_2689 : decode cL_law 2689 = .ok (.aload_n 0, 1) := by decide +kernel
theorem dL_law_2690 : decode cL_law 2690 = .ok (.iload 5, 2) := by decide +kernel
theorem dL_law_2692 : decode cL_law 2692 = .ok (.iconst 1, 1) := by decide +kernel
theorem dL_law_2693 : decode cL_law 2693 = .ok (.iadd, 1) := by decide +kernel
theorem dL_law_2694 : decode cL_law 2694 = .ok (.iaload, 1) := by decide +kernel
theorem dL_law_2695 : decode cL_law 2695 = .ok (.aload 4, 2) := by decide +kernel
theorem dL_law_2697 : decode cL_law 2697 = .ok (.invokestatic 316, 3) := by decide +kernel
theorem dL_law_2700 : decode cL_law 2700 = .ok (.istore 6, 2) := by decide +kernel
theorem dL_law_2702 : decode cL_law 2702 = .ok (.aload_n 2, 1) := by decide +kernel
theorem dL_law_2703 : decode cL_law 2703 = .ok (.aload_n 0, 1) := by decide +kernel
theorem dL_law_2704 : decode cL_law 2704 = .ok (.iload 5, 2) := by decide +kernel
theorem dL_law_2706 : decode cL_law 2706 = .ok (.iconst 1, 1) := by decide +kernel
theorem dL_law_2707 : decode cL_law 2707 = .ok (.iadd, 1) := by decide +kernel
theorem dL_law_2708 : decode cL_law 2708 = .ok (.iaload, 1) := by decide +kernel
theorem dL_law_2709 : decode cL_law 2709 = .ok (.invokevirtual 318, 3) := by decide +kernel
theorem dL_law_2712 : decode cL_law 2712 = .ok (.fstore 7, 2) := by decide +kernel
theorem dL_law_2714 : decode cL_law 2714 = .ok (.aload_n 2, 1) := by decide +kernel
theorem dL_law_2715 : decode cL_law 2715 = .ok (.invokevirtual 166, 3) := by decide +kernel
theorem dL_law_2718 : decode cL_law 2718 = .ok (.iload 6, 2) := by decide +kernel
theorem dL_law_2720 : decode cL_law 2720 = .ok (.if_icmp .eq 5, 3) := by decide +kernel
theorem dL_law_2723 : decode cL_law 2723 = .ok (.iconst 0, 1) := by decide +kernel
theorem dL_law_2724 : decode cL_law 2724 = .ok (.ireturn, 1) := by decide +kernel
theorem dL_law_2725 : decode cL_law 2725 = .ok (.iload 6, 2) := by decide +kernel
theorem dL_law_2727 : decode cL_law 2727 = .ok (.ifCond .ne 36, 3) := by decide +kernel
theorem dL_law_2730 : decode cL_law 2730 = .ok (.aload 4, 2) := by decide +kernel
theorem dL_law_2732 : decode cL_law 2732 = .ok (.iconst 0, 1) := by decide +kernel
theorem dL_law_2733 : decode cL_law 2733 = .ok (.daload, 1) := by decide +kernel
theorem dL_law_2734 : decode cL_law 2734 = .ok (.fload 7, 2) := by decide +kernel
theorem dL_law_2736 : decode cL_law 2736 = .ok (.f2d, 1) := by decide +kernel
theorem dL_law_2737 : decode cL_law 2737 = .ok (.dcmp .l, 1) := by decide +kernel
theorem dL_law_2738 : decode cL_law 2738 = .ok (.ifCond .eq 25, 3) := by decide +kernel
theorem dL_law_2741 : decode cL_law 2741 = .ok (.aload 4, 2) := by decide +kernel
theorem dL_law_2743 : decode cL_law 2743 = .ok (.iconst 0, 1) := by decide +kernel
theorem dL_law_2744 : decode cL_law 2744 = .ok (.daload, 1) := by decide +kernel
theorem dL_law_2745 : decode cL_law 2745 = .ok (.aload 4, 2) := by decide +kernel
theorem dL_law_2747 : decode cL_law 2747 = .ok (.iconst 0, 1) := by decide +kernel
theorem dL_law_2748 : decode cL_law 2748 = .ok (.daload, 1) := by decide +kernel
theorem dL_law_2749 : decode cL_law 2749 = .ok (.dcmp .l, 1) := by decide +kernel
theorem dL_law_2750 : decode cL_law 2750 = .ok (.ifCond .eq 11, 3) := by decide +kernel
theorem dL_law_2753 : decode cL_law 2753 = .ok (.fload 7, 2) := by decide +kernel
theorem dL_law_2755 : decode cL_law 2755 = .ok (.fload 7, 2) := by decide +kernel
theorem dL_law_2757 : decode cL_law 2757 = .ok (.fcmp .l, 1) := by decide +kernel
theorem dL_law_2758 : decode cL_law 2758 = .ok (.ifCond .ne 5, 3) := by decide +kernel
theorem dL_law_2761 : decode cL_law 2761 = .ok (.iconst 0, 1) := by decide +kernel
theorem dL_law_2762 : decode cL_law 2762 = .ok (.ireturn, 1) := by decide +kernel
theorem dL_law_2763 : decode cL_law 2763 = .ok (.goto 757, 3) := by decide +kernel
theorem dL_law_2766 : decode cL_law 2766 = .ok (.aload_n 1, 1) := by decide +kernel
theorem dL_law_2767 : decode cL_law 2767 = .ok (.invokevirtual 319, 3) := by decide +kernel
theorem dL_law_2770 : decode cL_law 2770 = .ok (.f2d, 1) := by decide +kernel
theorem dL_law_2771 : decode cL_law 2771 = .ok (.dstore 6, 2) := by decide +kernel
theorem dL_law_2773 : decode cL_law 2773 = .ok (.aload_n 2, 1) := by decide +kernel
theorem dL_law_2774 : decode cL_law 2774 = .ok (.invokevirtual 322, 3) := by decide +kernel
theorem dL_law_2777 : decode cL_law 2777 = .ok (.f2d, 1) := by decide +kernel
theorem dL_law_2778 : decode cL_law 2778 = .ok (.dstore 8, 2) := by decide +kernel
theorem dL_law_2780 : decode cL_law 2780 = .ok (.dload 6, 2) := by decide +kernel
theorem dL_law_2782 : decode cL_law 2782 = .ok (.dload 8, 2) := by decide +kernel
theorem dL_law_2784 : decode cL_law 2784 = .ok (.dcmp .l, 1) := by decide +kernel
theorem dL_law_2785 : decode cL_law 2785 = .ok (.ifCond .eq 21, 3) := by decide +kernel
theorem dL_law_2788 : decode cL_law 2788 = .ok (.dload 6, 2) := by decide +kernel
theorem dL_law_2790 : decode cL_law 2790 = .ok (.dload 6, 2) := by decide +kernel
theorem dL_law_2792 : decode cL_law 2792 = .ok (.dcmp .l, 1) := by decide +kernel
theorem dL_law_2793 : decode cL_law 2793 = .ok (.ifCond .eq 11, 3) := by decide +kernel
theorem dL_law_2796 : decode cL_law 2796 = .ok (.dload 8, 2) := by decide +kernel
theorem dL_law_2798 : decode cL_law 2798 = .ok (.dload 8, 2) := by decide +kernel
theorem dL_law_2800 : decode cL_law 2800 = .ok (.dcmp .l, 1) := by decide +kernel
theorem dL_law_2801 : decode cL_law 2801 = .ok (.ifCond .ne 5, 3) := by decide +kernel
theorem dL_law_2804 : decode cL_law 2804 = .ok (.iconst 0, 1) := by decide +kernel
theorem dL_law_2805 : decode cL_law 2805 = .ok (.ireturn, 1) := by decide +kernel
theorem dL_law_2806 : decode cL_law 2806 = .ok (.goto 714, 3) := by decide +kernel
theorem dL_law_2809 : decode cL_law 2809 = .ok (.aload_n 1, 1) := by decide +kernel
theorem dL_law_2810 : decode cL_law 2810 = .ok (.invokevirtual 323, 3) := by decide +kernel
theorem dL_law_2813 : decode cL_law 2813 = .ok (.f2d, 1) := by decide +kernel
theorem dL_law_2814 : decode cL_law 2814 = .ok (.dstore 6, 2) := by decide +kernel
theorem dL_law_2816 : decode cL_law 2816 = .ok (.aload_n 2, 1) := by decide +kernel
theorem dL_law_2817 : decode cL_law 2817 = .ok (.invokevirtual 326, 3) := by decide +kernel
theorem dL_law_2820 : decode cL_law 2820 = .ok (.f2d, 1) := by decide +kernel
theorem dL_law_2821 : decode cL_law 2821 = .ok (.dstore 8, 2) := by decide +kernel
theorem dL_law_2823 : decode cL_law 2823 = .ok (.dload 6, 2) := by decide +kernel
theorem dL_law_2825 : decode cL_law 2825 = .ok (.dload 8, 2) := by decide +kernel
theorem dL_law_2827 : decode cL_law 2827 = .ok (.dcmp .l, 1) := by decide +kernel
theorem dL_law_2828 : decode cL_law 2828 = .ok (.ifCond .eq 21, 3) := by decide +kernel
theorem dL_law_2831 : decode cL_law 2831 = .ok (.dload 6, 2) := by decide +kernel
theorem dL_law_2833 : decode cL_law 2833 = .ok (.dload 6, 2) := by decide +kernel
theorem dL_law_2835 : decode cL_law 2835 = .ok (.dcmp .l, 1) := by decide +kernel
theorem dL_law_2836 : decode cL_law 2836 = .ok (.ifCond .eq 11, 3) := by decide +kernel
theorem dL_law_2839 : decode cL_law 2839 = .ok (.dload 8, 2) := by decide +kernel
theorem dL_law_2841 : decode cL_law 2841 = .ok (.dload 8, 2) := by decide +kernel
theorem dL_law_2843 : decode cL_law 2843 = .ok (.dcmp .l, 1) := by decide +kernel
theorem dL_law_2844 : decode cL_law 2844 = .ok (.ifCond .ne 5, 3) := by decide +kernel
theorem dL_law_2847 : decode cL_law 2847 = .ok (.iconst 0, 1) := by decide +kernel
theorem dL_law_2848 : decode cL_law 2848 = .ok (.ireturn, 1) := by decide +kernel
theorem dL_law_2849 : decode cL_law 2849 = .ok (.goto 671, 3) := by decide +kernel
theorem dL_law_2852 : decode cL_law 2852 = .ok (.aload_n 1, 1) := by decide +kernel
theorem dL_law_2853 : decode cL_law 2853 = .ok (.invokevirtual 327, 3) := by decide +kernel
theorem dL_law_2856 : decode cL_law 2856 = .ok (.aload_n 2, 1) := by decide +kernel
theorem dL_law_2857 : decode cL_law 2857 = .ok (.invokevirtual 330, 3) := by decide +kernel
theorem dL_law_2860 : decode cL_law 2860 = .ok (.if_icmp .eq 660, 3) := by decide +kernel
theorem dL_law_2863 : decode cL_law 2863 = .ok (.iconst 0, 1) := by decide +kernel
theorem dL_law_2864 : decode cL_law 2864 = .ok (.ireturn, 1) := by decide +kernel
theorem dL_law_2865 : decode cL_law 2865 = .ok (.aload_n 1, 1) := by decide +kernel
theorem dL_law_2866 : decode cL_law 2866 = .ok (.invokevirtual 331, 3) := by decide +kernel
theorem dL_law_2869 : decode cL_law 2869 = .ok (.aload_n 2, 1) := by decide +kernel
theorem dL_law_2870 : decode cL_law 2870 = .ok (.invokevirtual 334, 3) := by decide +kernel
theorem dL_law_2873 : decode cL_law 2873 = .ok (.if_icmp .eq 647, 3) := by decide +kernel
theorem dL_law_2876 : decode cL_law 2876 = .ok (.iconst 0, 1) := by decide +kernel
theorem dL_law_2877 : decode cL_law 2877 = .ok (.ireturn, 1) := by decide +kernel
theorem dL_law_2878 : decode cL_law 2878 = .ok (.aload_n 1, 1) := by decide +kernel
theorem dL_law_2879 : decode cL_law 2879 = .ok (.invokevirtual 335, 3) := by decide +kernel
theorem dL_law_2882 : decode cL_law 2882 = .ok (.aload_n 2, 1) := by decide +kernel
theorem dL_law_2883 : decode cL_law 2883 = .ok (.invokevirtual 338, 3) := by decide +kernel
theorem dL_law_2886 : decode cL_law 2886 = .ok (.if_icmp .eq 634, 3) := by decide +kernel
theorem dL_law_2889 : decode cL_law 2889 = .ok (.iconst 0, 1) := by decide +kernel
theorem dL_law_2890 : decode cL_law 2890 = .ok (.ireturn, 1) := by decide +kernel
theorem dL_law_2891 : decode cL_law 2891 = .ok (.aload_n 1, 1) := by decide +kernel
theorem dL_law_2892 : decode cL_law 2892 = .ok (.aload 4, 2) := by decide +kernel
theorem dL_law_2894 : decode cL_law 2894 = .ok (.invokestatic 339, 3) := by decide +kernel
theorem dL_law_2897 : decode cL_law 2897 = .ok (.istore 6, 2) := by decide +kernel
theorem dL_law_2899 : decode cL_law 2899 = .ok (.aload_n 2, 1) := by decide +kernel
theorem dL_law_2900 : decode cL_law 2900 = .ok (.invokevirtual 341, 3) := by decide +kernel
theorem dL_law_2903 : decode cL_law 2903 = .ok (.dstore 7, 2) := by decide +kernel
theorem dL_law_2905 : decode cL_law 2905 = .ok (.aload_n 2, 1) := by decide +kernel
theorem dL_law_2906 : decode cL_law 2906 = .ok (.invokevirtual 166, 3) := by decide +kernel
theorem dL_law_2909 : decode cL_law 2909 = .ok (.iload 6, 2) := by decide +kernel
theorem dL_law_2911 : decode cL_law 2911 = .ok (.if_icmp .eq 5, 3) := by decide +kernel
theorem dL_law_2914 : decode cL_law 2914 = .ok (.iconst 0, 1) := by decide +kernel
theorem dL_law_2915 : decode cL_law 2915 = .ok (.ireturn, 1) := by decide +kernel
theorem dL_law_2916 : decode cL_law 2916 = .ok (.iload 6, 2) := by decide +kernel
theorem dL_law_2918 : decode cL_law 2918 = .ok (.ifCond .ne 35, 3) := by decide +kernel
theorem dL_law_2921 : decode cL_law 2921 = .ok (.aload 4, 2) := by decide +kernel
theorem dL_law_2923 : decode cL_law 2923 = .ok (.iconst 0, 1) := by decide +kernel
theorem dL_law_2924 : decode cL_law 2924 = .ok (.daload, 1) := by decide +kernel
theorem dL_law_2925 : decode cL_law 2925 = .ok (.dload 7, 2) := by decide +kernel
theorem dL_law_2927 : decode cL_law 2927 = .ok (.dcmp .l, 1) := by decide +kernel
theorem dL_law_2928 : decode cL_law 2928 = .ok (.ifCond .eq 25, 3) := by decide +kernel
theorem dL_law_2931 : decode cL_law 2931 = .ok (.aload 4, 2) := by decide +kernel
theorem dL_law_2933 : decode cL_law 2933 = .ok (.iconst 0, 1) := by decide +kernel
theorem dL_law_2934 : decode cL_law 2934 = .ok (.daload, 1) := by decide +kernel
theorem dL_law_2935 : decode cL_law 2935 = .ok (.aload 4, 2) := by decide +kernel
theorem dL_law_2937 : decode cL_law 2937 = .ok (.iconst 0, 1) := by decide +kernel
theorem dL_law_2938 : decode cL_law 2938 = .ok (.daload, 1) := by decide +kernel
theorem dL_law_2939 : decode cL_law 2939 = .ok (.dcmp .l, 1) := by decide +kernel
theorem dL_law_2940 : decode cL_law 2940 = .ok (.ifCond .eq 11, 3) := by decide +kernel
theorem dL_law_2943 : decode cL_law 2943 = .ok (.dload 7, 2) := by decide +kernel
theorem dL_law_2945 : decode cL_law 2945 = .ok (.dload 7, 2) := by decide +kernel
theorem dL_law_2947 : decode cL_law 2947 = .ok (.dcmp .l, 1) := by decide +kernel
theorem dL_law_2948 : decode cL_law 2948 = .ok (.ifCond .ne 5, 3) := by decide +kernel
theorem dL_law_2951 : decode cL_law 2951 = .ok (.iconst 0, 1) := by decide +kernel
theorem dL_law_2952 : decode cL_law 2952 = .ok (.ireturn, 1) := by decide +kernel
theorem dL_law_2953 : decode cL_law 2953 = .ok (.goto 567, 3) := by decide +kernel
theorem dL_law_2956 : decode cL_law 2956 = .ok (.aload_n 1, 1) := by decide +kernel
theorem dL_law_2957 : decode cL_law 2957 = .ok (.aload 4, 2) := by decide +kernel
theorem dL_law_2959 : decode cL_law 2959 = .ok (.invokestatic 342, 3) := by decide +kernel
theorem dL_law_2962 : decode cL_law 2962 = .ok (.istore 6, 2) := by decide +kernel
theorem dL_law_2964 : decode cL_law 2964 = .ok (.aload_n 2, 1) := by decide +kernel
theorem dL_law_2965 : decode cL_law 2965 = .ok (.invokevirtual 344, 3) := by decide +kernel
theorem dL_law_2968 : decode cL_law 2968 = .ok (.fstore 7, 2) := by decide +kernel
theorem dL_law_2970 : decode cL_law 2970 = .ok (.aload_n 2, 1) := by decide +kernel
theorem dL_law_2971 : decode cL_law 2971 = .ok (.invokevirtual 166, 3) := by decide +kernel
theorem dL_law_2974 : decode cL_law 2974 = .ok (.iload 6, 2) := by decide +kernel
theorem dL_law_2976 : decode cL_law 2976 = .ok (.if_icmp .eq 5, 3) := by decide +kernel
theorem dL_law_2979 : decode cL_law 2979 = .ok (.iconst 0, 1) := by decide +kernel
theorem dL_law_2980 : decode cL_law 2980 = .ok (.ireturn, 1) := by decide +kernel
theorem dL_law_2981 : decode cL_law 2981 = .ok (.iload 6, 2) := by decide +kernel
theorem dL_law_2983 : decode cL_law 2983 = .ok (.ifCond .ne 36, 3) := by decide +kernel
theorem dL_law_2986 : decode cL_law 2986 = .ok (.aload 4, 2) := by decide +kernel
theorem dL_law_2988 : decode cL_law 2988 = .ok (.iconst 0, 1) := by decide +kernel
theorem dL_law_2989 : decode cL_law 2989 = .ok (.daload, 1) := by decide +kernel
theorem dL_law_2990 : decode cL_law 2990 = .ok (.fload 7, 2) := by decide +kernel
theorem dL_law_2992 : decode cL_law 2992 = .ok (.f2d, 1) := by decide +kernel
theorem dL_law_2993 : decode cL_law 2993 = .ok (.dcmp .l, 1) := by decide +kernel
theorem dL_law_2994 : decode cL_law 2994 = .ok (.ifCond .eq 25, 3) := by decide +kernel
theorem dL_law_2997 : decode cL_law 2997 = .ok (.aload 4, 2) := by decide +kernel
theorem dL_law_2999 : decode cL_law 2999 = .ok (.iconst 0, 1) := by decide +kernel
theorem dL_law_3000 : decode cL_law 3000 = .ok (.daload, 1) := by decide +kernel
theorem dL_law_3001 : decode cL_law 3001 = .ok (.aload 4, 2) := by decide +kernel
theorem dL_law_3003 : decode cL_law 3003 = .ok (.iconst 0, 1) := by decide +kernel
theorem dL_law_3004 : decode cL_law 3004 = .ok (.daload, 1) := by decide +kernel
theorem dL_law_3005 : decode cL_law 3005 = .ok (.dcmp .l, 1) := by decide +kernel
theorem dL_law_3006 : decode cL_law 3006 = .ok (.ifCond .eq 11, 3) := by decide +kernel
theorem dL_law_3009 : decode cL_law 3009 = .ok (.fload 7, 2) := by decide +kernel
theorem dL_law_3011 : decode cL_law 3011 = .ok (.fload 7, 2) := by decide +kernel
theorem dL_law_3013 : decode cL_law 3013 = .ok (.fcmp .l, 1) := by decide +kernel
theorem dL_law_3014 : decode cL_law 3014 = .ok (.ifCond .ne 5, 3) := by decide +kernel
theorem dL_law_3017 : decode cL_law 3017 = .ok (.iconst 0, 1) := by decide +kernel
theorem dL_law_3018 : decode cL_law 3018 = .ok (.ireturn, 1) := by decide +kernel
theorem dL_law_3019 : decode cL_law 3019 = .ok (.goto 501, 3) := by decide +kernel
theorem dL_law_3022 : decode cL_law 3022 = .ok (.aload_n 1, 1) := by decide +kernel
theorem dL_law_3023 : decode cL_law 3023 = .ok (.invokevirtual 345, 3) := by decide +kernel
theorem dL_law_3026 : decode cL_law 3026 = .ok (.aload_n 2, 1) := by decide +kernel
theorem dL_law_3027 : decode cL_law 3027 = .ok (.invokevirtual 348, 3) := by decide +kernel
theorem dL_law_3030 : decode cL_law 3030 = .ok (.if_icmp .eq 490, 3) := by decide +kernel
theorem dL_law_3033 : decode cL_law 3033 = .ok (.iconst 0, 1) := by decide +kernel
theorem dL_law_3034 : decode cL_law 3034 = .ok (.ireturn, 1) := by decide +kernel
theorem dL_law_3035 : decode cL_law 3035 = .ok (.aload_n 1, 1) := by decide +kernel
theorem dL_law_3036 : decode cL_law 3036 = .ok (.aload_n 0, 1) := by decide +kernel
theorem dL_law_3037 : decode cL_law 3037 = .ok (.iload 5, 2) := by decide +kernel
theorem dL_law_3039 : decode cL_law 3039 = .ok (.iconst 1, 1) := by decide +kernel
theorem dL_law_3040 : decode cL_law 3040 = .ok (.iadd, 1) := by decide +kernel
theorem dL_law_3041 : decode cL_law 3041 = .ok (.iaload, 1) := by decide +kernel
theorem dL_law_3042 : decode cL_law 3042 = .ok (.aload_n 3, 1) := by decide +kernel
theorem dL_law_3043 : decode cL_law 3043 = .ok (.invokestatic 349, 3) := by decide +kernel
theorem dL_law_3046 : decode cL_law 3046 = .ok (.istore 6, 2) := by decide +kernel
theorem dL_law_3048 : decode cL_law 3048 = .ok (.aload_n 2, 1) := by decide +kernel
theorem dL_law_3049 : decode cL_law 3049 = .ok (.aload_n 0, 1) := by decide +kernel
theorem dL_law_3050 : decode cL_law 3050 = .ok (.iload 5, 2) := by decide +kernel
theorem dL_law_3052 : decode cL_law 3052 = .ok (.iconst 1, 1) := by decide +kernel
theorem dL_law_3053 : decode cL_law 3053 = .ok (.iadd, 1) := by decide +kernel
theorem dL_law_3054 : decode cL_law 3054 = .ok (.iaload, 1) := by decide +kernel
theorem dL_law_3055 : decode cL_law 3055 = .ok (.invokevirtual 351, 3) := by decide +kernel
theorem dL_law_3058 : decode cL_law 3058 = .ok (.istore 7, 2) := by decide +kernel
theorem dL_law_3060 : decode cL_law 3060 = .ok (.aload_n 2, 1) := by decide +kernel
theorem dL_law_3061 : decode cL_law 3061 = .ok (.invokevirtual 166, 3) := by decide +kernel
theorem dL_law_3064 : decode cL_law 3064 = .ok (.iload 6, 2) := by decide +kernel
theorem dL_law_3066 : decode cL_law 3066 = .ok (.if_icmp .eq 5, 3) := by decide +kernel
theorem dL_law_3069 : decode cL_law 3069 = .ok (.iconst 0, 1) := by decide +kernel
theorem dL_law_3070 : decode cL_law 3070 = .ok (.ireturn, 1) := by decide +kernel
theorem dL_law_3071 : decode cL_law 3071 = .ok (.iload 6, 2) := by decide +kernel
theorem dL_law_3073 : decode cL_law 3073 = .ok (.ifCond .ne 15, 3) := by decide +kernel
theorem dL_law_3076 : decode cL_law 3076 = .ok (.aload_n 3, 1) := by decide +kernel
theorem dL_law_3077 : decode cL_law 3077 = .ok (.iconst 0, 1) := by decide +kernel
theorem dL_law_3078 : decode cL_law 3078 = .ok (.laload, 1) := by decide +kernel
theorem dL_law_3079 : decode cL_law 3079 = .ok (.iload 7, 2) := by decide +kernel
theorem dL_law_3081 : decode cL_law 3081 = .ok (.i2l, 1) := by decide +kernel
theorem dL_law_3082 : decode cL_law 3082 = .ok (.lcmp, 1) := by decide +kernel
theorem dL_law_3083 : decode cL_law 3083 = .ok (.ifCond .eq 5, 3) := by decide +kernel
theorem dL_law_3086 : decode cL_law 3086 = .ok (.iconst 0, 1) := by decide +kernel
theorem dL_law_3087 : decode cL_law 3087 = .ok (.ireturn, 1) := by decide +kernel
theorem dL_law_3088 : decode cL_law 3088 = .ok (.goto 432, 3) := by decide +kernel
theorem dL_law_3091 : decode cL_law 3091 = .ok (.aload_n 1, 1) := by decide +kernel
theorem dL_law_3092 : decode cL_law 3092 = .ok (.aload_n 0, 1) := by decide +kernel
theorem dL_law_3093 : decode cL_law 3093 = .ok (.iload 5, 2) := by decide +kernel
theorem dL_law_3095 : decode cL_law 3095 = .ok (.iconst 1, 1) := by decide +kernel
theorem dL_law_3096 : decode cL_law 3096 = .ok (.iadd, 1) := by decide +kernel
theorem dL_law_3097 : decode cL_law 3097 = .ok (.iaload, 1) := by decide +kernel
theorem dL_law_3098 : decode cL_law 3098 = .ok (.aload_n 3, 1) := by decide +kernel
theorem dL_law_3099 : decode cL_law 3099 = .ok (.invokestatic 352, 3) := by decide +kernel
theorem dL_law_3102 : decode cL_law 3102 = .ok (.istore 6, 2) := by decide +kernel
theorem dL_law_3104 : decode cL_law 3104 = .ok (.aload_n 2, 1) := by decide +kernel
theorem dL_law_3105 : decode cL_law 3105 = .ok (.aload_n 0, 1) := by decide +kernel
theorem dL_law_3106 : decode cL_law 3106 = .ok (.iload 5, 2) := by decide +kernel
theorem dL_law_3108 : decode cL_law 3108 = .ok (.iconst 1, 1) := by decide +kernel
theorem dL_law_3109 : decode cL_law 3109 = .ok (.iadd, 1) := by decide +kernel
theorem dL_law_3110 : decode cL_law 3110 = .ok (.iaload, 1) := by decide +kernel
theorem dL_law_3111 : decode cL_law 3111 = .ok (.invokevirtual 354, 3) := by decide +kernel
theorem dL_law_3114 : decode cL_law 3114 = .ok (.istore 7, 2) := by decide +kernel
theorem dL_law_3116 : decode cL_law 3116 = .ok (.aload_n 2, 1) := by decide +kernel
theorem dL_law_3117 : decode cL_law 3117 = .ok (.invokevirtual 166, 3) := by decide +kernel
theorem dL_law_3120 : decode cL_law 3120 = .ok (.iload 6, 2) := by decide +kernel
theorem dL_law_3122 : decode cL_law 3122 = .ok (.if_icmp .eq 5, 3) := by decide +kernel
theorem dL_law_3125 : decode cL_law 3125 = .ok (.iconst 0, 1) := by decide +kernel
theorem dL_law_3126 : decode cL_law 3126 = .ok (.ireturn, 1) := by decide +kernel
theorem dL_law_3127 : decode cL_law 3127 = .ok (.iload 6, 2) := by decide +kernel
theorem dL_law_3129 : decode cL_law 3129 = .ok (.ifCond .ne 15, 3) := by decide +kernel
theorem dL_law_3132 : decode cL_law 3132 = .ok (.aload_n 3, 1) := by decide +kernel
theorem dL_law_3133 : decode cL_law 3133 = .ok (.iconst 0, 1) := by decide +kernel
theorem dL_law_3134 : decode cL_law 3134 = .ok (.laload, 1) := by decide +kernel
theorem dL_law_3135 : decode cL_law 3135 = .ok (.iload 7, 2) := by decide +kernel
theorem dL_law_3137 : decode cL_law 3137 = .ok (.i2l, 1) := by decide +kernel
theorem dL_law_3138 : decode cL_law 3138 = .ok (.lcmp, 1) := by decide +kernel
theorem dL_law_3139 : decode cL_law 3139 = .ok (.ifCond .eq 5, 3) := by decide +kernel
theorem dL_law_3142 : decode cL_law 3142 = .ok (.iconst 0, 1) := by decide +kernel
theorem dL_law_3143 : decode cL_law 3143 = .ok (.ireturn, 1) := by decide +kernel
theorem dL_law_3144 : decode cL_law 3144 = .ok (.goto 376, 3) := by decide +kernel
theorem dL_law_3147 : decode cL_law 3147 = .ok (.aload_n 1, 1) := by decide +kernel
theorem dL_law_3148 : decode cL_law 3148 = .ok (.invokevirtual 355, 3) := by decide +kernel
theorem dL_law_3151 : decode cL_law 3151 = .ok (.aload_n 2, 1) := by decide +kernel
theorem dL_law_3152 : decode cL_law 3152 = .ok (.invokevirtual 358, 3) := by decide +kernel
theorem dL_law_3155 : decode cL_law 3155 = .ok (.if_icmp .eq 365, 3) := by decide +kernel
theorem dL_law_3158 : decode cL_law 3158 = .ok (.iconst 0, 1) := by decide +kernel
theorem dL_law_3159 : decode cL_law 3159 = .ok (.ireturn, 1) := by decide +kernel
theorem dL_law_3160 : decode cL_law 3160 = .ok (.aload_n 1, 1) := by decide +kernel
theorem dL_law_3161 : decode cL_law 3161 = .ok (.aload_n 0, 1) := by decide +kernel
theorem dL_law_3162 : decode cL_law 3162 = .ok (.iload 5, 2) := by decide +kernel
theorem dL_law_3164 : decode cL_law 3164 = .ok (.iconst 1, 1) := by decide +kernel
theorem dL_law_3165 : decode cL_law 3165 = .ok (.iadd, 1) := by decide +kernel
theorem dL_law_3166 : decode cL_law 3166 = .ok (.iaload, 1) := by decide +kernel
theorem dL_law_3167 : decode cL_law 3167 = .ok (.aload_n 3, 1) := by decide +kernel
theorem dL_law_3168 : decode cL_law 3168 = .ok (.invokestatic 359, 3) := by decide +kernel
theorem dL_law_3171 : decode cL_law 3171 = .ok (.istore 6, 2) := by decide +kernel
theorem dL_law_3173 : decode cL_law 3173 = .ok (.aload_n 2, 1) := by decide +kernel
theorem dL_law_3174 : decode cL_law 3174 = .ok (.aload_n 0, 1) := by decide +kernel
theorem dL_law_3175 : decode cL_law 3175 = .ok (.iload 5, 2) := by decide +kernel
theorem dL_law_3177 : decode cL_law 3177 = .ok (.iconst 1, 1) := by decide +kernel
theorem dL_law_3178 : decode cL_law 3178 = .ok (.iadd, 1) := by decide +kernel
theorem dL_law_3179 : decode cL_law 3179 = .ok (.iaload, 1) := by decide +kernel
theorem dL_law_3180 : decode cL_law 3180 = .ok (.invokevirtual 361, 3) := by decide +kernel
theorem dL_law_3183 : decode cL_law 3183 = .ok (.istore 7, 2) := by decide +kernel
theorem dL_law_3185 : decode cL_law 3185 = .ok (.aload_n 2, 1) := by decide +kernel
theorem dL_law_3186 : decode cL_law 3186 = .ok (.invokevirtual 166, 3) := by decide +kernel
theorem dL_law_3189 : decode cL_law 3189 = .ok (.iload 6, 2) := by decide +kernel
theorem dL_law_3191 : decode cL_law 3191 = .ok (.if_icmp .eq 5, 3) := by decide +kernel
theorem dL_law_3194 : decode cL_law 3194 = .ok (.iconst 0, 1) := by decide +kernel
theorem dL_law_3195 : decode cL_law 3195 = .ok (.ireturn, 1) := by decide +kernel
theorem dL_law_3196 : decode cL_law 3196 = .ok (.iload 6, 2) := by decide +kernel
theorem dL_law_3198 : decode cL_law 3198 = .ok (.ifCond .ne 15, 3) := by decide +kernel
theorem dL_law_3201 : decode cL_law 3201 = .ok (.aload_n 3, 1) := by decide +kernel
theorem dL_law_3202 : decode cL_law 3202 = .ok (.iconst 0, 1) := by decide +kernel
theorem dL_law_3203 : decode cL_law 3203 = .ok (.laload, 1) := by decide +kernel
theorem dL_law_3204 : decode cL_law 3204 = .ok (.iload 7, 2) := by decide +kernel
theorem dL_law_3206 : decode cL_law 3206 = .ok (.i2l, 1) := by decide +kernel
theorem dL_law_3207 : decode cL_law 3207 = .ok (.lcmp, 1) := by decide +kernel
theorem dL_law_3208 : decode cL_law 3208 = .ok (.ifCond .eq 5, 3) := by decide +kernel
theorem dL_law_3211 : decode cL_law 3211 = .ok (.iconst 0, 1) := by decide +kernel
theorem dL_law_3212 : decode cL_law 3212 = .ok (.ireturn, 1) := by decide +kernel
theorem dL_law_3213 : decode cL_law 3213 = .ok (.goto 307, 3) := by decide +kernel
theorem dL_law_3216 : decode cL_law 3216 = .ok (.aload_n 1, 1) := by decide +kernel
theorem dL_law_3217 : decode cL_law 3217 = .ok (.aload_n 0, 1) := by decide +kernel
theorem dL_law_3218 : decode cL_law 3218 = .ok (.iload 5, 2) := by decide +kernel
theorem dL_law_3220 : decode cL_law 3220 = .ok (.iconst 1, 1) := by decide +kernel
theorem dL_law_3221 : decode cL_law 3221 = .ok (.iadd, 1) := by decide +kernel
theorem dL_law_3222 : decode cL_law 3222 = .ok (.iaload, 1) := by decide +kernel
theorem dL_law_3223 : decode cL_law 3223 = .ok (.i2c, 1) := by decide +kernel
theorem dL_law_3224 : decode cL_law 3224 = .ok (.aload_n 3, 1) := by decide +kernel
theorem dL_law_3225 : decode cL_law 3225 = .ok (.invokestatic 362, 3) := by decide +kernel
theorem dL_law_3228 : decode cL_law 3228 = .ok (.istore 6, 2) := by decide +kernel
theorem dL_law_3230 : decode cL_law 3230 = .ok (.aload_n 2, 1) := by decide +kernel
theorem dL_law_3231 : decode cL_law 3231 = .ok (.aload_n 0, 1) := by decide +kernel
theorem dL_law_3232 : decode cL_law 3232 = .ok (.iload 5, 2) := by decide +kernel
theorem dL_law_3234 : decode cL_law 3234 = .ok (.iconst 1, 1) := by decide +kernel
theorem dL_law_3235 : decode cL_law 3235 = .ok (.iadd, 1) := by decide +kernel
theorem dL_law_3236 : decode cL_law 3236 = .ok (.iaload, 1) := by decide +kernel
theorem dL_law_3237 : decode cL_law 3237 = .ok (.i2c, 1) := by decide +kernel
theorem dL_law_3238 : decode cL_law 3238 = .ok (.invokevirtual 365, 3) := by decide +kernel
theorem dL_law_3241 : decode cL_law 3241 = .ok (.istore 7, 2) := by decide +kernel
theorem dL_law_3243 : decode cL_law 3243 = .ok (.aload_n 2, 1) := by decide +kernel
theorem dL_law_3244 : decode cL_law 3244 = .ok (.invokevirtual 166, 3) := by decide +kernel
theorem dL_law_3247 : decode cL_law 3247 = .ok (.iload 6, 2) := by decide +kernel
theorem dL_law_3249 : decode cL_law 3249 = .ok (.if_icmp .eq 5, 3) := by decide +kernel
theorem dL_law_3252 : decode cL_law 3252 = .ok (.iconst 0, 1) := by decide +kernel
theorem dL_law_3253 : decode cL_law 3253 = .ok (.ireturn, 1) := by decide +kernel
theorem dL_law_3254 : decode cL_law 3254 = .ok (.iload 6, 2) := by decide +kernel
theorem dL_law_3256 : decode cL_law 3256 = .ok (.ifCond .ne 15, 3) := by decide +kernel
theorem dL_law_3259 : decode cL_law 3259 = .ok (.aload_n 3, 1) := by decide +kernel
theorem dL_law_3260 : decode cL_law 3260 = .ok (.iconst 0, 1) := by decide +kernel
theorem dL_law_3261 : decode cL_law 3261 = .ok (.laload, 1) := by decide +kernel
theorem dL_law_3262 : decode cL_law 3262 = .ok (.iload 7, 2) := by decide +kernel
theorem dL_law_3264 : decode cL_law 3264 = .ok (.i2l, 1) := by decide +kernel
theorem dL_law_3265 : decode cL_law 3265 = .ok (.lcmp, 1) := by decide +kernel
theorem dL_law_3266 : decode cL_law 3266 = .ok (.ifCond .eq 5, 3) := by decide +kernel
theorem dL_law_3269 : decode cL_law 3269 = .ok (.iconst 0, 1) := by decide +kernel
theorem dL_law_3270 : decode cL_law 3270 = .ok (.ireturn, 1) := by decide +kernel
theorem dL_law_3271 : decode cL_law 3271 = .ok (.goto 249, 3) := by decide +kernel
theorem dL_law_3274 : decode cL_law 3274 = .ok (.aload_n 1, 1) := by decide +kernel
theorem dL_law_3275 : decode cL_law 3275 = .ok (.aload_n 3, 1) := by decide +kernel
theorem dL_law_3276 : decode cL_law 3276 = .ok (.invokestatic 366, 3) := by decide +kernel
theorem dL_law_3279 : decode cL_law 3279 = .ok (.istore 6, 2) := by decide +kernel
theorem dL_law_3281 : decode cL_law 3281 = .ok (.aload_n 2, 1) := by decide +kernel
theorem dL_law_3282 : decode cL_law 3282 = .ok (.invokevirtual 368, 3) := by decide +kernel
theorem dL_law_3285 : decode cL_law 3285 = .ok (.istore 7, 2) := by decide +kernel
theorem dL_law_3287 : decode cL_law 3287 = .ok (.aload_n 2, 1) := by decide +kernel
theorem dL_law_3288 : decode cL_law 3288 = .ok (.invokevirtual 166, 3) := by decide +kernel
theorem dL_law_3291 : decode cL_law 3291 = .ok (.iload 6, 2) := by decide +kernel
theorem dL_law_3293 : decode cL_law 3293 = .ok (.if_icmp .eq 5, 3) := by decide +kernel
theorem dL_law_3296 : decode cL_law 3296 = .ok (.iconst 0, 1) := by decide +kernel
theorem dL_law_3297 : decode cL_law 3297 = .ok (.ireturn, 1) := by decide +kernel
theorem dL_law_3298 : decode cL_law 3298 = .ok (.iload 6, 2) := by decide +kernel
theorem dL_law_3300 : decode cL_law 3300 = .ok (.ifCond .ne 15, 3) := by decide +kernel
theorem dL_law_3303 : decode cL_law 3303 = .ok (.aload_n 3, 1) := by decide +kernel
theorem dL_law_3304 : decode cL_law 3304 = .ok (.iconst 0, 1) := by decide +kernel
theorem dL_law_3305 : decode cL_law 3305 = .ok (.laload, 1) := by decide +kernel
theorem dL_law_3306 : decode cL_law 3306 = .ok (.iload 7, 2) := by decide +kernel
theorem dL_law_3308 : decode cL_law 3308 = .ok (.i2l, 1) := by decide +kernel
theorem dL_law_3309 : decode cL_law 3309 = .ok (.lcmp, 1) := by decide +kernel
theorem dL_law_3310 : decode cL_law 3310 = .ok (.ifCond .eq 5, 3) := by decide +kernel
theorem dL_law_3313 : decode cL_law 3313 = .ok (.iconst 0, 1) := by decide +kernel
theorem dL_law_3314 : decode cL_law 3314 = .ok (.ireturn, 1) := by decide +kernel
theorem dL_law_3315 : decode cL_law 3315 = .ok (.goto 205, 3) := by decide +kernel
theorem dL_law_3318 : decode cL_law 3318 = .ok (.aload_n 1, 1) := by decide +kernel
theorem dL_law_3319 : decode cL_law 3319 = .ok (.aload_n 3, 1) := by decide +kernel
theorem dL_law_3320 : decode cL_law 3320 = .ok (.invokestatic 369, 3) := by decide +kernel
theorem dL_law_3323 : decode cL_law 3323 = .ok (.istore 6, 2) := by decide +kernel
theorem dL_law_3325 : decode cL_law 3325 = .ok (.aload_n 2, 1) := by decide +kernel
theorem dL_law_3326 : decode cL_law 3326 = .ok (.invokevirtual 371, 3) := by decide +kernel
theorem dL_law_3329 : decode cL_law 3329 = .ok (.istore 7, 2) := by decide +kernel
theorem dL_law_3331 : decode cL_law 3331 = .ok (.aload_n 2, 1) := by decide +kernel
theorem dL_law_3332 : decode cL_law 3332 = .ok (.invokevirtual 166, 3) := by decide +kernel
theorem dL_law_3335 : decode cL_law 3335 = .ok (.iload 6, 2) := by decide +kernel
theorem dL_law_3337 : decode cL_law 3337 = .ok (.if_icmp .eq 5, 3) := by decide +kernel
theorem dL_law_3340 : decode cL_law 3340 = .ok (.iconst 0, 1) := by decide +kernel
theorem dL_law_3341 : decode cL_law 3341 = .ok (.ireturn, 1) := by decide +kernel
theorem dL_law_3342 : decode cL_law 3342 = .ok (.iload 6, 2) := by decide +kernel
theorem dL_law_3344 : decode cL_law 3344 = .ok (.ifCond .ne 15, 3) := by decide +kernel
theorem dL_law_3347 : decode cL_law 3347 = .ok (.aload_n 3, 1) := by decide +kernel
theorem dL_law_3348 : decode cL_law 3348 = .ok (.iconst 0, 1) := by decide +kernel
theorem dL_law_3349 : decode cL_law 3349 = .ok (.laload, 1) := by decide +kernel
theorem dL_law_3350 : decode cL_law 3350 = .ok (.iload 7, 2) := by decide +kernel
theorem dL_law_3352 : decode cL_law 3352 = .ok (.i2l, 1) := by decide +kernel
theorem dL_law_3353 : decode cL_law 3353 = .ok (.lcmp, 1) := by decide +kernel
theorem dL_law_3354 : decode cL_law 3354 = .ok (.ifCond .eq 5, 3) := by decide +kernel
theorem dL_law_3357 : decode cL_law 3357 = .ok (.iconst 0, 1) := by decide +kernel
theorem dL_law_3358 : decode cL_law 3358 = .ok (.ireturn, 1) := by decide +kernel
theorem dL_law_3359 : decode cL_law 3359 = .ok (.goto 161, 3) := by decide +kernel
theorem dL_law_3362 : decode cL_law 3362 = .ok (.aload_n 1, 1) := by decide +kernel
theorem dL_law_3363 : decode cL_law 3363 = .ok (.aload_n 3, 1) := by decide +kernel
theorem dL_law_3364 : decode cL_law 3364 = .ok (.invokestatic 372, 3) := by decide +kernel
theorem dL_law_3367 : decode cL_law 3367 = .ok (.istore 6, 2) := by decide +kernel
theorem dL_law_3369 : decode cL_law 3369 = .ok (.aload_n 2, 1) := by decide +kernel
theorem dL_law_3370 : decode cL_law 3370 = .ok (.invokevirtual 374, 3) := by decide +kernel
theorem dL_law_3373 : decode cL_law 3373 = .ok (.istore 7, 2) := by decide +kernel
theorem dL_law_3375 : decode cL_law 3375 = .ok (.aload_n 2, 1) := by decide +kernel
theorem dL_law_3376 : decode cL_law 3376 = .ok (.invokevirtual 166, 3) := by decide +kernel
theorem dL_law_3379 : decode cL_law 3379 = .ok (.iload 6, 2) := by decide +kernel
theorem dL_law_3381 : decode cL_law 3381 = .ok (.if_icmp .eq 5, 3) := by decide +kernel
theorem dL_law_3384 : decode cL_law 3384 = .ok (.iconst 0, 1) := by decide +kernel
theorem dL_law_3385 : decode cL_law 3385 = .ok (.ireturn, 1) := by decide +kernel
theorem dL_law_3386 : decode cL_law 3386 = .ok (.iload 6, 2) := by decide +kernel
theorem dL_law_3388 : decode cL_law 3388 = .ok (.ifCond .ne 15, 3) := by decide +kernel
theorem dL_law_3391 : decode cL_law 3391 = .ok (.aload_n 3, 1) := by decide +kernel
theorem dL_law_3392 : decode cL_law 3392 = .ok (.iconst 0, 1) := by decide +kernel
theorem dL_law_3393 : decode cL_law 3393 = .ok (.laload, 1) := by decide +kernel
theorem dL_law_3394 : decode cL_law 3394 = .ok (.iload 7, 2) := by decide +kernel
theorem dL_law_3396 : decode cL_law 3396 = .ok (.i2l, 1) := by decide +kernel
theorem dL_law_3397 : decode cL_law 3397 = .ok (.lcmp, 1) := by decide +kernel
theorem dL_law_3398 : decode cL_law 3398 = .ok (.ifCond .eq 5, 3) := by decide +kernel
theorem dL_law_3401 : decode cL_law 3401 = .ok (.iconst 0, 1) := by decide +kernel
theorem dL_law_3402 : decode cL_law 3402 = .ok (.ireturn, 1) := by decide +kernel
theorem dL_law_3403 : decode cL_law 3403 = .ok (.goto 117, 3) := by decide +kernel
theorem dL_law_3406 : decode cL_law 3406 = .ok (.aload_n 1, 1) := by decide +kernel
theorem dL_law_3407 : decode cL_law 3407 = .ok (.invokevirtual 375, 3) := by decide +kernel
theorem dL_law_3410 : decode cL_law 3410 = .ok (.aload_n 2, 1) := by decide +kernel
theorem dL_law_3411 : decode cL_law 3411 = .ok (.invokevirtual 378, 3) := by decide +kernel
theorem dL_law_3414 : decode cL_law 3414 = .ok (.if_icmp .eq 106, 3) := by decide +kernel
theorem dL_law_3417 : decode cL_law 3417 = .ok (.iconst 0, 1) := by decide +kernel
theorem dL_law_3418 : decode cL_law 3418 = .ok (.ireturn, 1) := by decide +kernel
theorem dL_law_3419 : decode cL_law 3419 = .ok (.aload_n 1, 1) := by decide +kernel
theorem dL_law_3420 : decode cL_law 3420 = .ok (.aload_n 3, 1) := by decide +kernel
theorem dL_law_3421 : decode cL_law 3421 = .ok (.invokestatic 379, 3) := by decide +kernel
theorem dL_law_3424 : decode cL_law 3424 = .ok (.istore 6, 2) := by decide +kernel
theorem dL_law_3426 : decode cL_law 3426 = .ok (.aload_n 2, 1) := by decide +kernel
theorem dL_law_3427 : decode cL_law 3427 = .ok (.invokevirtual 381, 3) := by decide +kernel
theorem dL_law_3430 : decode cL_law 3430 = .ok (.istore 7, 2) := by decide +kernel
theorem dL_law_3432 : decode cL_law 3432 = .ok (.aload_n 2, 1) := by decide +kernel
theorem dL_law_3433 : decode cL_law 3433 = .ok (.invokevirtual 166, 3) := by decide +kernel
theorem dL_law_3436 : decode cL_law 3436 = .ok (.iload 6, 2) := by decide +kernel
theorem dL_law_3438 : decode cL_law 3438 = .ok (.if_icmp .eq 5, 3) := by decide +kernel
theorem dL_law_3441 : decode cL_law 3441 = .ok (.iconst 0, 1) := by decide +kernel
theorem dL_law_3442 : decode cL_law 3442 = .ok (.ireturn, 1) := by decide +kernel
theorem dL_law_3443 : decode cL_law 3443 = .ok (.iload 6, 2) := by decide +kernel
theorem dL_law_3445 : decode cL_law 3445 = .ok (.ifCond .ne 15, 3) := by decide +kernel
theorem dL_law_3448 : decode cL_law 3448 = .ok (.aload_n 3, 1) := by decide +kernel
theorem dL_law_3449 : decode cL_law 3449 = .ok (.iconst 0, 1) := by decide +kernel
theorem dL_law_3450 : decode cL_law 3450 = .ok (.laload, 1) := by decide +kernel
theorem dL_law_3451 : decode cL_law 3451 = .ok (.iload 7, 2) := by decide +kernel
theorem dL_law_3453 : decode cL_law 3453 = .ok (.i2l, 1) := by decide +kernel
theorem dL_law_3454 : decode cL_law 3454 = .ok (.lcmp, 1) := by decide +kernel
theorem dL_law_3455 : decode cL_law 3455 = .ok (.ifCond .eq 5, 3) := by decide +kernel
theorem dL_law_3458 : decode cL_law 3458 = .ok (.iconst 0, 1) := by decide +kernel
theorem dL_law_3459 : decode cL_law 3459 = .ok (.ireturn, 1) := by decide +kernel
theorem dL_law_3460 : decode cL_law 3460 = .ok (.goto 60, 3) := by decide +kernel
theorem dL_law_3463 : decode cL_law 3463 = .ok (.aload_n 1, 1) := by decide +kernel
theorem dL_law_3464 : decode cL_law 3464 = .ok (.invokevirtual 382, 3) := by decide +kernel
theorem dL_law_3467 : decode cL_law 3467 = .ok (.aload_n 2, 1) := by decide +kernel
theorem dL_law_3468 : decode cL_law 3468 = .ok (.invokevirtual 385, 3) := by decide +kernel
theorem dL_law_3471 : decode cL_law 3471 = .ok (.if_icmp .eq 49, 3) := by decide +kernel
theorem dL_law_3474 : decode cL_law 3474 = .ok (.iconst 0, 1) := by decide +kernel
theorem dL_law_3475 : decode cL_law 3475 = .ok (.ireturn, 1) := by decide +kernel
theorem dL_law_3476 : decode cL_law 3476 = .ok (.aload_n 1, 1) := by decide +kernel
theorem dL_law_3477 : decode cL_law 3477 = .ok (.aload_n 3, 1) := by decide +kernel
theorem dL_law_3478 : decode cL_law 3478 = .ok (.invokestatic 386, 3) := by decide +kernel
theorem dL_law_3481 : decode cL_law 3481 = .ok (.istore 6, 2) := by decide +kernel
theorem dL_law_3483 : decode cL_law 3483 = .ok (.aload_n 2, 1) := by decide +kernel
theorem dL_law_3484 : decode cL_law 3484 = .ok (.invokevirtual 388, 3) := by decide +kernel
theorem dL_law_3487 : decode cL_law 3487 = .ok (.istore 7, 2) := by decide +kernel
theorem dL_law_3489 : decode cL_law 3489 = .ok (.aload_n 2, 1) := by decide +kernel
theorem dL_law_3490 : decode cL_law 3490 = .ok (.invokevirtual 166, 3) := by decide +kernel
theorem dL_law_3493 : decode cL_law 3493 = .ok (.iload 6, 2) := by decide +kernel
theorem dL_law_3495 : decode cL_law 3495 = .ok (.if_icmp .eq 5, 3) := by decide +kernel
theorem dL_law_3498 : decode cL_law 3498 = .ok (.iconst 0, 1) := by decide +kernel
theorem dL_law_3499 : decode cL_law 3499 = .ok (.ireturn, 1) := by decide +kernel
theorem dL_law_3500 : decode cL_law 3500 = .ok (.iload 6, 2) := by decide +kernel
theorem dL_law_3502 : decode cL_law 3502 = .ok (.ifCond .ne 15, 3) := by decide +kernel
theorem dL_law_3505 : decode cL_law 3505 = .ok (.aload_n 3, 1) := by decide +kernel
theorem dL_law_3506 : decode cL_law 3506 = .ok (.iconst 0, 1) := by decide +kernel
theorem dL_law_3507 : decode cL_law 3507 = .ok (.laload, 1) := by decide +kernel
theorem dL_law_3508 : decode cL_law 3508 = .ok (.iload 7, 2) := by decide +kernel
theorem dL_law_3510 : decode cL_law 3510 = .ok (.i2l, 1) := by decide +kernel
theorem dL_law_3511 : decode cL_law 3511 = .ok (.lcmp, 1) := by decide +kernel
theorem dL_law_3512 : decode cL_law 3512 = .ok (.ifCond .eq 5, 3) := by decide +kernel
theorem dL_law_3515 : decode cL_law 3515 = .ok (.iconst 0, 1) := by decide +kernel
theorem dL_law_3516 : decode cL_law 3516 = .ok (.ireturn, 1) := by decide +kernel
theorem dL_law_3517 : decode cL_law 3517 = .ok (.goto 3, 3) := by decide +kernel
theorem dL_law_3520 : decode cL_law 3520 = .ok (.iinc 5 5, 3) := by decide +kernel
theorem dL_law_3523 : decode cL_law 3523 = .ok (.goto (-3495), 3) := by decide +kernel
theorem dL_law_3526 : decode cL_law 3526 = .ok (.iconst 1, 1) := by decide +kernel
theorem dL_law_3527 : decode cL_law 3527 = .ok (.ireturn, 1) := by decide +kernel
