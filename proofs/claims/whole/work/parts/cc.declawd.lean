theorem eL_law_2576 : dc mL_law 2576 (.iconst 1) 1 2577 := ⟨d_iconst_1 (bL (p := 2576) (v := 4) (by decide) (by decide +kernel)), rfl⟩
theorem eL_law_2577 : dc mL_law 2577 (.goto 4) 3 2580 := ⟨d_goto (bL (p := 2577) (v := 167) (by decide) (by decide +kernel)) (bL (p := 2578) (v := 0) (by decide) (by decide +kernel)) (bL (p := 2579) (v := 4) (by decide) (by decide +kernel)) (by decide +kernel), rfl⟩
theorem eL_law_2580 : dc mL_law 2580 (.iconst 0) 1 2581 := ⟨d_iconst_0 (bL (p := 2580) (v := 3) (by decide) (by decide +kernel)), rfl⟩
theorem eL_law_2581 : dc mL_law 2581 (.invokevirtual 233) 3 2584 := ⟨d_invokevirtual (bL (p := 2581) (v := 182) (by decide) (by decide +kernel)) (bL (p := 2582) (v := 0) (by decide) (by decide +kernel)) (bL (p := 2583) (v := 233) (by decide) (by decide +kernel)) (by decide), rfl⟩
theorem eL_law_2584 : dc mL_law 2584 (.istore 6) 2 2586 := ⟨d_istore (bL (p := 2584) (v := 54) (by decide) (by decide +kernel)) (bL (p := 2585) (v := 6) (by decide) (by decide +kernel)), rfl⟩
theorem eL_law_2586 : dc mL_law 2586 (.aload_n 2) 1 2587 := ⟨d_aload_2 (bL (p := 2586) (v := 44) (by decide) (by decide +kernel)), rfl⟩
theorem eL_law_2587 : dc mL_law 2587 (.invokevirtual 141) 3 2590 := ⟨d_invokevirtual (bL (p := 2587) (v := 182) (by decide) (by decide +kernel)) (bL (p := 2588) (v := 0) (by decide) (by decide +kernel)) (bL (p := 2589) (v := 141) (by decide) (by decide +kernel)) (by decide), rfl⟩
theorem eL_law_2590 : dc mL_law 2590 (.iload 5) 2 2592 := ⟨d_iload (bL (p := 2590) (v := 21) (by decide) (by decide +kernel)) (bL (p := 2591) (v := 5) (by decide) (by decide +kernel)), rfl⟩
theorem eL_law_2592 : dc mL_law 2592 (.if_icmp .eq 5) 3 2595 := ⟨d_if_icmp_eq (bL (p := 2592) (v := 159) (by decide) (by decide +kernel)) (bL (p := 2593) (v := 0) (by decide) (by decide +kernel)) (bL (p := 2594) (v := 5) (by decide) (by decide +kernel)) (by decide +kernel), rfl⟩
theorem eL_law_2595 : dc mL_law 2595 (.iconst 0) 1 2596 := ⟨d_iconst_0 (bL (p := 2595) (v := 3) (by decide) (by decide +kernel)), rfl⟩
theorem eL_law_2596 : dc mL_law 2596 (.ireturn) 1 2597 := ⟨d_ireturn (bL (p := 2596) (v := 172) (by decide) (by decide +kernel)), rfl⟩
theorem eL_law_2597 : dc mL_law 2597 (.iload 5) 2 2599 := ⟨d_iload (bL (p := 2597) (v := 21) (by decide) (by decide +kernel)) (bL (p := 2598) (v := 5) (by decide) (by decide +kernel)), rfl⟩
theorem eL_law_2599 : dc mL_law 2599 (.ifCond .ne 15) 3 2602 := ⟨d_ifCond_ne (bL (p := 2599) (v := 154) (by decide) (by decide +kernel)) (bL (p := 2600) (v := 0) (by decide) (by decide +kernel)) (bL (p := 2601) (v := 15) (by decide) (by decide +kernel)) (by decide +kernel), rfl⟩
theorem eL_law_2602 : dc mL_law 2602 (.aload_n 3) 1 2603 := ⟨d_aload_3 (bL (p := 2602) (v := 45) (by decide) (by decide +kernel)), rfl⟩
theorem eL_law_2603 : dc mL_law 2603 (.iconst 0) 1 2604 := ⟨d_iconst_0 (bL (p := 2603) (v := 3) (by decide) (by decide +kernel)), rfl⟩
theorem eL_law_2604 : dc mL_law 2604 (.laload) 1 2605 := ⟨d_laload (bL (p := 2604) (v := 47) (by decide) (by decide +kernel)), rfl⟩
theorem eL_law_2605 : dc mL_law 2605 (.iload 6) 2 2607 := ⟨d_iload (bL (p := 2605) (v := 21) (by decide) (by decide +kernel)) (bL (p := 2606) (v := 6) (by decide) (by decide +kernel)), rfl⟩
theorem eL_law_2607 : dc mL_law 2607 (.i2l) 1 2608 := ⟨d_i2l (bL (p := 2607) (v := 133) (by decide) (by decide +kernel)), rfl⟩
theorem eL_law_2608 : dc mL_law 2608 (.lcmp) 1 2609 := ⟨d_lcmp (bL (p := 2608) (v := 148) (by decide) (by decide +kernel)), rfl⟩
theorem eL_law_2609 : dc mL_law 2609 (.ifCond .eq 5) 3 2612 := ⟨d_ifCond_eq (bL (p := 2609) (v := 153) (by decide) (by decide +kernel)) (bL (p := 2610) (v := 0) (by decide) (by decide +kernel)) (bL (p := 2611) (v := 5) (by decide) (by decide +kernel)) (by decide +kernel), rfl⟩
theorem eL_law_2612 : dc mL_law 2612 (.iconst 0) 1 2613 := ⟨d_iconst_0 (bL (p := 2612) (v := 3) (by decide) (by decide +kernel)), rfl⟩
theorem eL_law_2613 : dc mL_law 2613 (.ireturn) 1 2614 := ⟨d_ireturn (bL (p := 2613) (v := 172) (by decide) (by decide +kernel)), rfl⟩
theorem eL_law_2614 : dc mL_law 2614 (.goto 738) 3 2617 := ⟨d_goto (bL (p := 2614) (v := 167) (by decide) (by decide +kernel)) (bL (p := 2615) (v := 2) (by decide) (by decide +kernel)) (bL (p := 2616) (v := 226) (by decide) (by decide +kernel)) (by decide +kernel), rfl⟩
theorem eL_law_2617 : dc mL_law 2617 (.aload_n 1) 1 2618 := ⟨d_aload_1 (bL (p := 2617) (v := 43) (by decide) (by decide +kernel)), rfl⟩
theorem eL_law_2618 : dc mL_law 2618 (.aload_n 0) 1 2619 := ⟨d_aload_0 (bL (p := 2618) (v := 42) (by decide) (by decide +kernel)), rfl⟩
theorem eL_law_2619 : dc mL_law 2619 (.iload 4) 2 2621 := ⟨d_iload (bL (p := 2619) (v := 21) (by decide) (by decide +kernel)) (bL (p := 2620) (v := 4) (by decide) (by decide +kernel)), rfl⟩
theorem eL_law_2621 : dc mL_law 2621 (.iconst 1) 1 2622 := ⟨d_iconst_1 (bL (p := 2621) (v := 4) (by decide) (by decide +kernel)), rfl⟩
theorem eL_law_2622 : dc mL_law 2622 (.iadd) 1 2623 := ⟨d_iadd (bL (p := 2622) (v := 96) (by decide) (by decide +kernel)), rfl⟩
theorem eL_law_2623 : dc mL_law 2623 (.iaload) 1 2624 := ⟨d_iaload (bL (p := 2623) (v := 46) (by decide) (by decide +kernel)), rfl⟩
theorem eL_law_2624 : dc mL_law 2624 (.aload_n 0) 1 2625 := ⟨d_aload_0 (bL (p := 2624) (v := 42) (by decide) (by decide +kernel)), rfl⟩
theorem eL_law_2625 : dc mL_law 2625 (.iload 4) 2 2627 := ⟨d_iload (bL (p := 2625) (v := 21) (by decide) (by decide +kernel)) (bL (p := 2626) (v := 4) (by decide) (by decide +kernel)), rfl⟩
theorem eL_law_2627 : dc mL_law 2627 (.iconst 2) 1 2628 := ⟨d_iconst_2 (bL (p := 2627) (v := 5) (by decide) (by decide +kernel)), rfl⟩
theorem eL_law_2628 : dc mL_law 2628 (.iadd) 1 2629 := ⟨d_iadd (bL (p := 2628) (v := 96) (by decide) (by decide +kernel)), rfl⟩
theorem eL_law_2629 : dc mL_law 2629 (.iaload) 1 2630 := ⟨d_iaload (bL (p := 2629) (v := 46) (by decide) (by decide +kernel)), rfl⟩
theorem eL_law_2630 : dc mL_law 2630 (.aload_n 0) 1 2631 := ⟨d_aload_0 (bL (p := 2630) (v := 42) (by decide) (by decide +kernel)), rfl⟩
theorem eL_law_2631 : dc mL_law 2631 (.iload 4) 2 2633 := ⟨d_iload (bL (p := 2631) (v := 21) (by decide) (by decide +kernel)) (bL (p := 2632) (v := 4) (by decide) (by decide +kernel)), rfl⟩
theorem eL_law_2633 : dc mL_law 2633 (.iconst 3) 1 2634 := ⟨d_iconst_3 (bL (p := 2633) (v := 6) (by decide) (by decide +kernel)), rfl⟩
theorem eL_law_2634 : dc mL_law 2634 (.iadd) 1 2635 := ⟨d_iadd (bL (p := 2634) (v := 96) (by decide) (by decide +kernel)), rfl⟩
theorem eL_law_2635 : dc mL_law 2635 (.iaload) 1 2636 := ⟨d_iaload (bL (p := 2635) (v := 46) (by decide) (by decide +kernel)), rfl⟩
theorem eL_law_2636 : dc mL_law 2636 (.aload_n 0) 1 2637 := ⟨d_aload_0 (bL (p := 2636) (v := 42) (by decide) (by decide +kernel)), rfl⟩
theorem eL_law_2637 : dc mL_law 2637 (.iload 4) 2 2639 := ⟨d_iload (bL (p := 2637) (v := 21) (by decide) (by decide +kernel)) (bL (p := 2638) (v := 4) (by decide) (by decide +kernel)), rfl⟩
theorem eL_law_2639 : dc mL_law 2639 (.iconst 4) 1 2640 := ⟨d_iconst_4 (bL (p := 2639) (v := 7) (by decide) (by decide +kernel)), rfl⟩
theorem eL_law_2640 : dc mL_law 2640 (.iadd) 1 2641 := ⟨d_iadd (bL (p := 2640) (v := 96) (by decide) (by decide +kernel)), rfl⟩
theorem eL_law_2641 : dc mL_law 2641 (.iaload) 1 2642 := ⟨d_iaload (bL (p := 2641) (v := 46) (by decide) (by decide +kernel)), rfl⟩
theorem eL_law_2642 : dc mL_law 2642 (.aload_n 0) 1 2643 := ⟨d_aload_0 (bL (p := 2642) (v := 42) (by decide) (by decide +kernel)), rfl⟩
theorem eL_law_2643 : dc mL_law 2643 (.iload 4) 2 2645 := ⟨d_iload (bL (p := 2643) (v := 21) (by decide) (by decide +kernel)) (bL (p := 2644) (v := 4) (by decide) (by decide +kernel)), rfl⟩
theorem eL_law_2645 : dc mL_law 2645 (.iconst 5) 1 2646 := ⟨d_iconst_5 (bL (p := 2645) (v := 8) (by decide) (by decide +kernel)), rfl⟩
theorem eL_law_2646 : dc mL_law 2646 (.iadd) 1 2647 := ⟨d_iadd (bL (p := 2646) (v := 96) (by decide) (by decide +kernel)), rfl⟩
theorem eL_law_2647 : dc mL_law 2647 (.iaload) 1 2648 := ⟨d_iaload (bL (p := 2647) (v := 46) (by decide) (by decide +kernel)), rfl⟩
theorem eL_law_2648 : dc mL_law 2648 (.aload_n 0) 1 2649 := ⟨d_aload_0 (bL (p := 2648) (v := 42) (by decide) (by decide +kernel)), rfl⟩
theorem eL_law_2649 : dc mL_law 2649 (.iload 4) 2 2651 := ⟨d_iload (bL (p := 2649) (v := 21) (by decide) (by decide +kernel)) (bL (p := 2650) (v := 4) (by decide) (by decide +kernel)), rfl⟩
theorem eL_law_2651 : dc mL_law 2651 (.bipush 6) 2 2653 := ⟨d_bipush (bL (p := 2651) (v := 16) (by decide) (by decide +kernel)) (bL (p := 2652) (v := 6) (by decide) (by decide +kernel)) (by decide +kernel), rfl⟩
theorem eL_law_2653 : dc mL_law 2653 (.iadd) 1 2654 := ⟨d_iadd (bL (p := 2653) (v := 96) (by decide) (by decide +kernel)), rfl⟩
theorem eL_law_2654 : dc mL_law 2654 (.iaload) 1 2655 := ⟨d_iaload (bL (p := 2654) (v := 46) (by decide) (by decide +kernel)), rfl⟩
theorem eL_law_2655 : dc mL_law 2655 (.aload_n 3) 1 2656 := ⟨d_aload_3 (bL (p := 2655) (v := 45) (by decide) (by decide +kernel)), rfl⟩
theorem eL_law_2656 : dc mL_law 2656 (.invokestatic 234) 3 2659 := ⟨d_invokestatic (bL (p := 2656) (v := 184) (by decide) (by decide +kernel)) (bL (p := 2657) (v := 0) (by decide) (by decide +kernel)) (bL (p := 2658) (v := 234) (by decide) (by decide +kernel)) (by decide), rfl⟩
theorem eL_law_2659 : dc mL_law 2659 (.istore 5) 2 2661 := ⟨d_istore (bL (p := 2659) (v := 54) (by decide) (by decide +kernel)) (bL (p := 2660) (v := 5) (by decide) (by decide +kernel)), rfl⟩
theorem eL_law_2661 : dc mL_law 2661 (.aload_n 2) 1 2662 := ⟨d_aload_2 (bL (p := 2661) (v := 44) (by decide) (by decide +kernel)), rfl⟩
theorem eL_law_2662 : dc mL_law 2662 (.aload_n 0) 1 2663 := ⟨d_aload_0 (bL (p := 2662) (v := 42) (by decide) (by decide +kernel)), rfl⟩
theorem eL_law_2663 : dc mL_law 2663 (.iload 4) 2 2665 := ⟨d_iload (bL (p := 2663) (v := 21) (by decide) (by decide +kernel)) (bL (p := 2664) (v := 4) (by decide) (by decide +kernel)), rfl⟩
theorem eL_law_2665 : dc mL_law 2665 (.iconst 1) 1 2666 := ⟨d_iconst_1 (bL (p := 2665) (v := 4) (by decide) (by decide +kernel)), rfl⟩
theorem eL_law_2666 : dc mL_law 2666 (.iadd) 1 2667 := ⟨d_iadd (bL (p := 2666) (v := 96) (by decide) (by decide +kernel)), rfl⟩
theorem eL_law_2667 : dc mL_law 2667 (.iaload) 1 2668 := ⟨d_iaload (bL (p := 2667) (v := 46) (by decide) (by decide +kernel)), rfl⟩
theorem eL_law_2668 : dc mL_law 2668 (.aload_n 0) 1 2669 := ⟨d_aload_0 (bL (p := 2668) (v := 42) (by decide) (by decide +kernel)), rfl⟩
theorem eL_law_2669 : dc mL_law 2669 (.iload 4) 2 2671 := ⟨d_iload (bL (p := 2669) (v := 21) (by decide) (by decide +kernel)) (bL (p := 2670) (v := 4) (by decide) (by decide +kernel)), rfl⟩
theorem eL_law_2671 : dc mL_law 2671 (.iconst 2) 1 2672 := ⟨d_iconst_2 (bL (p := 2671) (v := 5) (by decide) (by decide +kernel)), rfl⟩
theorem eL_law_2672 : dc mL_law 2672 (.iadd) 1 2673 := ⟨d_iadd (bL (p := 2672) (v := 96) (by decide) (by decide +kernel)), rfl⟩
theorem eL_law_2673 : dc mL_law 2673 (.iaload) 1 2674 := ⟨d_iaload (bL (p := 2673) (v := 46) (by decide) (by decide +kernel)), rfl⟩
theorem eL_law_2674 : dc mL_law 2674 (.aload_n 0) 1 2675 := ⟨d_aload_0 (bL (p := 2674) (v := 42) (by decide) (by decide +kernel)), rfl⟩
theorem eL_law_2675 : dc mL_law 2675 (.iload 4) 2 2677 := ⟨d_iload (bL (p := 2675) (v := 21) (by decide) (by decide +kernel)) (bL (p := 2676) (v := 4) (by decide) (by decide +kernel)), rfl⟩
theorem eL_law_2677 : dc mL_law 2677 (.iconst 3) 1 2678 := ⟨d_iconst_3 (bL (p := 2677) (v := 6) (by decide) (by decide +kernel)), rfl⟩
theorem eL_law_2678 : dc mL_law 2678 (.iadd) 1 2679 := ⟨d_iadd (bL (p := 2678) (v := 96) (by decide) (by decide +kernel)), rfl⟩
theorem eL_law_2679 : dc mL_law 2679 (.iaload) 1 2680 := ⟨d_iaload (bL (p := 2679) (v := 46) (by decide) (by decide +kernel)), rfl⟩
theorem eL_law_2680 : dc mL_law 2680 (.aload_n 0) 1 2681 := ⟨d_aload_0 (bL (p := 2680) (v := 42) (by decide) (by decide +kernel)), rfl⟩
theorem eL_law_2681 : dc mL_law 2681 (.iload 4) 2 2683 := ⟨d_iload (bL (p := 2681) (v := 21) (by decide) (by decide +kernel)) (bL (p := 2682) (v := 4) (by decide) (by decide +kernel)), rfl⟩
theorem eL_law_2683 : dc mL_law 2683 (.iconst 4) 1 2684 := ⟨d_iconst_4 (bL (p := 2683) (v := 7) (by decide) (by decide +kernel)), rfl⟩
theorem eL_law_2684 : dc mL_law 2684 (.iadd) 1 2685 := ⟨d_iadd (bL (p := 2684) (v := 96) (by decide) (by decide +kernel)), rfl⟩
theorem eL_law_2685 : dc mL_law 2685 (.iaload) 1 2686 := ⟨d_iaload (bL (p := 2685) (v := 46) (by decide) (by decide +kernel)), rfl⟩
theorem eL_law_2686 : dc mL_law 2686 (.aload_n 0) 1 2687 := ⟨d_aload_0 (bL (p := 2686) (v := 42) (by decide) (by decide +kernel)), rfl⟩
theorem eL_law_2687 : dc mL_law 2687 (.iload 4) 2 2689 := ⟨d_iload (bL (p := 2687) (v := 21) (by decide) (by decide +kernel)) (bL (p := 2688) (v := 4) (by decide) (by decide +kernel)), rfl⟩
theorem eL_law_2689 : dc mL_law 2689 (.iconst 5) 1 2690 := ⟨d_iconst_5 (bL (p := 2689) (v := 8) (by decide) (by decide +kernel)), rfl⟩
theorem eL_law_2690 : dc mL_law 2690 (.iadd) 1 2691 := ⟨d_iadd (bL (p := 2690) (v := 96) (by decide) (by decide +kernel)), rfl⟩
theorem eL_law_2691 : dc mL_law 2691 (.iaload) 1 2692 := ⟨d_iaload (bL (p := 2691) (v := 46) (by decide) (by decide +kernel)), rfl⟩
theorem eL_law_2692 : dc mL_law 2692 (.aload_n 0) 1 2693 := ⟨d_aload_0 (bL (p := 2692) (v := 42) (by decide) (by decide +kernel)), rfl⟩
theorem eL_law_2693 : dc mL_law 2693 (.iload 4) 2 2695 := ⟨d_iload (bL (p := 2693) (v := 21) (by decide) (by decide +kernel)) (bL (p := 2694) (v := 4) (by decide) (by decide +kernel)), rfl⟩
theorem eL_law_2695 : dc mL_law 2695 (.bipush 6) 2 2697 := ⟨d_bipush (bL (p := 2695) (v := 16) (by decide) (by decide +kernel)) (bL (p := 2696) (v := 6) (by decide) (by decide +kernel)) (by decide +kernel), rfl⟩
theorem eL_law_2697 : dc mL_law 2697 (.iadd) 1 2698 := ⟨d_iadd (bL (p := 2697) (v := 96) (by decide) (by decide +kernel)), rfl⟩
theorem eL_law_2698 : dc mL_law 2698 (.iaload) 1 2699 := ⟨d_iaload (bL (p := 2698) (v := 46) (by decide) (by decide +kernel)), rfl⟩
theorem eL_law_2699 : dc mL_law 2699 (.invokevirtual 236) 3 2702 := ⟨d_invokevirtual (bL (p := 2699) (v := 182) (by decide) (by decide +kernel)) (bL (p := 2700) (v := 0) (by decide) (by decide +kernel)) (bL (p := 2701) (v := 236) (by decide) (by decide +kernel)) (by decide), rfl⟩
theorem eL_law_2702 : dc mL_law 2702 (.istore 6) 2 2704 := ⟨d_istore (bL (p := 2702) (v := 54) (by decide) (by decide +kernel)) (bL (p := 2703) (v := 6) (by decide) (by decide +kernel)), rfl⟩
theorem eL_law_2704 : dc mL_law 2704 (.aload_n 2) 1 2705 := ⟨d_aload_2 (bL (p := 2704) (v := 44) (by decide) (by decide +kernel)), rfl⟩
theorem eL_law_2705 : dc mL_law 2705 (.invokevirtual 141) 3 2708 := ⟨d_invokevirtual (bL (p := 2705) (v := 182) (by decide) (by decide +kernel)) (bL (p := 2706) (v := 0) (by decide) (by decide +kernel)) (bL (p := 2707) (v := 141) (by decide) (by decide +kernel)) (by decide), rfl⟩
theorem eL_law_2708 : dc mL_law 2708 (.iload 5) 2 2710 := ⟨d_iload (bL (p := 2708) (v := 21) (by decide) (by decide +kernel)) (bL (p := 2709) (v := 5) (by decide) (by decide +kernel)), rfl⟩
theorem eL_law_2710 : dc mL_law 2710 (.if_icmp .eq 5) 3 2713 := ⟨d_if_icmp_eq (bL (p := 2710) (v := 159) (by decide) (by decide +kernel)) (bL (p := 2711) (v := 0) (by decide) (by decide +kernel)) (bL (p := 2712) (v := 5) (by decide) (by decide +kernel)) (by decide +kernel), rfl⟩
theorem eL_law_2713 : dc mL_law 2713 (.iconst 0) 1 2714 := ⟨d_iconst_0 (bL (p := 2713) (v := 3) (by decide) (by decide +kernel)), rfl⟩
theorem eL_law_2714 : dc mL_law 2714 (.ireturn) 1 2715 := ⟨d_ireturn (bL (p := 2714) (v := 172) (by decide) (by decide +kernel)), rfl⟩
theorem eL_law_2715 : dc mL_law 2715 (.iload 5) 2 2717 := ⟨d_iload (bL (p := 2715) (v := 21) (by decide) (by decide +kernel)) (bL (p := 2716) (v := 5) (by decide) (by decide +kernel)), rfl⟩
theorem eL_law_2717 : dc mL_law 2717 (.ifCond .ne 15) 3 2720 := ⟨d_ifCond_ne (bL (p := 2717) (v := 154) (by decide) (by decide +kernel)) (bL (p := 2718) (v := 0) (by decide) (by decide +kernel)) (bL (p := 2719) (v := 15) (by decide) (by decide +kernel)) (by decide +kernel), rfl⟩
theorem eL_law_2720 : dc mL_law 2720 (.aload_n 3) 1 2721 := ⟨d_aload_3 (bL (p := 2720) (v := 45) (by decide) (by decide +kernel)), rfl⟩
theorem eL_law_2721 : dc mL_law 2721 (.iconst 0) 1 2722 := ⟨d_iconst_0 (bL (p := 2721) (v := 3) (by decide) (by decide +kernel)), rfl⟩
theorem eL_law_2722 : dc mL_law 2722 (.laload) 1 2723 := ⟨d_laload (bL (p := 2722) (v := 47) (by decide) (by decide +kernel)), rfl⟩
theorem eL_law_2723 : dc mL_law 2723 (.iload 6) 2 2725 := ⟨d_iload (bL (p := 2723) (v := 21) (by decide) (by decide +kernel)) (bL (p := 2724) (v := 6) (by decide) (by decide +kernel)), rfl⟩
theorem eL_law_2725 : dc mL_law 2725 (.i2l) 1 2726 := ⟨d_i2l (bL (p := 2725) (v := 133) (by decide) (by decide +kernel)), rfl⟩
theorem eL_law_2726 : dc mL_law 2726 (.lcmp) 1 2727 := ⟨d_lcmp (bL (p := 2726) (v := 148) (by decide) (by decide +kernel)), rfl⟩
theorem eL_law_2727 : dc mL_law 2727 (.ifCond .eq 5) 3 2730 := ⟨d_ifCond_eq (bL (p := 2727) (v := 153) (by decide) (by decide +kernel)) (bL (p := 2728) (v := 0) (by decide) (by decide +kernel)) (bL (p := 2729) (v := 5) (by decide) (by decide +kernel)) (by decide +kernel), rfl⟩
theorem eL_law_2730 : dc mL_law 2730 (.iconst 0) 1 2731 := ⟨d_iconst_0 (bL (p := 2730) (v := 3) (by decide) (by decide +kernel)), rfl⟩
theorem eL_law_2731 : dc mL_law 2731 (.ireturn) 1 2732 := ⟨d_ireturn (bL (p := 2731) (v := 172) (by decide) (by decide +kernel)), rfl⟩
theorem eL_law_2732 : dc mL_law 2732 (.goto 620) 3 2735 := ⟨d_goto (bL (p := 2732) (v := 167) (by decide) (by decide +kernel)) (bL (p := 2733) (v := 2) (by decide) (by decide +kernel)) (bL (p := 2734) (v := 108) (by decide) (by decide +kernel)) (by decide +kernel), rfl⟩
theorem eL_law_2735 : dc mL_law 2735 (.aload_n 1) 1 2736 := ⟨d_aload_1 (bL (p := 2735) (v := 43) (by decide) (by decide +kernel)), rfl⟩
theorem eL_law_2736 : dc mL_law 2736 (.aload_n 0) 1 2737 := ⟨d_aload_0 (bL (p := 2736) (v := 42) (by decide) (by decide +kernel)), rfl⟩
theorem eL_law_2737 : dc mL_law 2737 (.iload 4) 2 2739 := ⟨d_iload (bL (p := 2737) (v := 21) (by decide) (by decide +kernel)) (bL (p := 2738) (v := 4) (by decide) (by decide +kernel)), rfl⟩
theorem eL_law_2739 : dc mL_law 2739 (.iconst 1) 1 2740 := ⟨d_iconst_1 (bL (p := 2739) (v := 4) (by decide) (by decide +kernel)), rfl⟩
theorem eL_law_2740 : dc mL_law 2740 (.iadd) 1 2741 := ⟨d_iadd (bL (p := 2740) (v := 96) (by decide) (by decide +kernel)), rfl⟩
theorem eL_law_2741 : dc mL_law 2741 (.iaload) 1 2742 := ⟨d_iaload (bL (p := 2741) (v := 46) (by decide) (by decide +kernel)), rfl⟩
theorem eL_law_2742 : dc mL_law 2742 (.aload_n 0) 1 2743 := ⟨d_aload_0 (bL (p := 2742) (v := 42) (by decide) (by decide +kernel)), rfl⟩
theorem eL_law_2743 : dc mL_law 2743 (.iload 4) 2 2745 := ⟨d_iload (bL (p := 2743) (v := 21) (by decide) (by decide +kernel)) (bL (p := 2744) (v := 4) (by decide) (by decide +kernel)), rfl⟩
theorem eL_law_2745 : dc mL_law 2745 (.iconst 2) 1 2746 := ⟨d_iconst_2 (bL (p := 2745) (v := 5) (by decide) (by decide +kernel)), rfl⟩
theorem eL_law_2746 : dc mL_law 2746 (.iadd) 1 2747 := ⟨d_iadd (bL (p := 2746) (v := 96) (by decide) (by decide +kernel)), rfl⟩
theorem eL_law_2747 : dc mL_law 2747 (.iaload) 1 2748 := ⟨d_iaload (bL (p := 2747) (v := 46) (by decide) (by decide +kernel)), rfl⟩
theorem eL_law_2748 : dc mL_law 2748 (.aload_n 0) 1 2749 := ⟨d_aload_0 (bL (p := 2748) (v := 42) (by decide) (by decide +kernel)), rfl⟩
theorem eL_law_2749 : dc mL_law 2749 (.iload 4) 2 2751 := ⟨d_iload (bL (p := 2749) (v := 21) (by decide) (by decide +kernel)) (bL (p := 2750) (v := 4) (by decide) (by decide +kernel)), rfl⟩
theorem eL_law_2751 : dc mL_law 2751 (.iconst 3) 1 2752 := ⟨d_iconst_3 (bL (p := 2751) (v := 6) (by decide) (by decide +kernel)), rfl⟩
theorem eL_law_2752 : dc mL_law 2752 (.iadd) 1 2753 := ⟨d_iadd (bL (p := 2752) (v := 96) (by decide) (by decide +kernel)), rfl⟩
theorem eL_law_2753 : dc mL_law 2753 (.iaload) 1 2754 := ⟨d_iaload (bL (p := 2753) (v := 46) (by decide) (by decide +kernel)), rfl⟩
theorem eL_law_2754 : dc mL_law 2754 (.aload_n 0) 1 2755 := ⟨d_aload_0 (bL (p := 2754) (v := 42) (by decide) (by decide +kernel)), rfl⟩
theorem eL_law_2755 : dc mL_law 2755 (.iload 4) 2 2757 := ⟨d_iload (bL (p := 2755) (v := 21) (by decide) (by decide +kernel)) (bL (p := 2756) (v := 4) (by decide) (by decide +kernel)), rfl⟩
theorem eL_law_2757 : dc mL_law 2757 (.iconst 4) 1 2758 := ⟨d_iconst_4 (bL (p := 2757) (v := 7) (by decide) (by decide +kernel)), rfl⟩
theorem eL_law_2758 : dc mL_law 2758 (.iadd) 1 2759 := ⟨d_iadd (bL (p := 2758) (v := 96) (by decide) (by decide +kernel)), rfl⟩
theorem eL_law_2759 : dc mL_law 2759 (.iaload) 1 2760 := ⟨d_iaload (bL (p := 2759) (v := 46) (by decide) (by decide +kernel)), rfl⟩
theorem eL_law_2760 : dc mL_law 2760 (.aload_n 0) 1 2761 := ⟨d_aload_0 (bL (p := 2760) (v := 42) (by decide) (by decide +kernel)), rfl⟩
theorem eL_law_2761 : dc mL_law 2761 (.iload 4) 2 2763 := ⟨d_iload (bL (p := 2761) (v := 21) (by decide) (by decide +kernel)) (bL (p := 2762) (v := 4) (by decide) (by decide +kernel)), rfl⟩
theorem eL_law_2763 : dc mL_law 2763 (.iconst 5) 1 2764 := ⟨d_iconst_5 (bL (p := 2763) (v := 8) (by decide) (by decide +kernel)), rfl⟩
theorem eL_law_2764 : dc mL_law 2764 (.iadd) 1 2765 := ⟨d_iadd (bL (p := 2764) (v := 96) (by decide) (by decide +kernel)), rfl⟩
theorem eL_law_2765 : dc mL_law 2765 (.iaload) 1 2766 := ⟨d_iaload (bL (p := 2765) (v := 46) (by decide) (by decide +kernel)), rfl⟩
theorem eL_law_2766 : dc mL_law 2766 (.aload_n 3) 1 2767 := ⟨d_aload_3 (bL (p := 2766) (v := 45) (by decide) (by decide +kernel)), rfl⟩
theorem eL_law_2767 : dc mL_law 2767 (.invokestatic 237) 3 2770 := ⟨d_invokestatic (bL (p := 2767) (v := 184) (by decide) (by decide +kernel)) (bL (p := 2768) (v := 0) (by decide) (by decide +kernel)) (bL (p := 2769) (v := 237) (by decide) (by decide +kernel)) (by decide), rfl⟩
theorem eL_law_2770 : dc mL_law 2770 (.istore 5) 2 2772 := ⟨d_istore (bL (p := 2770) (v := 54) (by decide) (by decide +kernel)) (bL (p := 2771) (v := 5) (by decide) (by decide +kernel)), rfl⟩
theorem eL_law_2772 : dc mL_law 2772 (.aload_n 2) 1 2773 := ⟨d_aload_2 (bL (p := 2772) (v := 44) (by decide) (by decide +kernel)), rfl⟩
theorem eL_law_2773 : dc mL_law 2773 (.aload_n 0) 1 2774 := ⟨d_aload_0 (bL (p := 2773) (v := 42) (by decide) (by decide +kernel)), rfl⟩
theorem eL_law_2774 : dc mL_law 2774 (.iload 4) 2 2776 := ⟨d_iload (bL (p := 2774) (v := 21) (by decide) (by decide +kernel)) (bL (p := 2775) (v := 4) (by decide) (by decide +kernel)), rfl⟩
theorem eL_law_2776 : dc mL_law 2776 (.iconst 1) 1 2777 := ⟨d_iconst_1 (bL (p := 2776) (v := 4) (by decide) (by decide +kernel)), rfl⟩
theorem eL_law_2777 : dc mL_law 2777 (.iadd) 1 2778 := ⟨d_iadd (bL (p := 2777) (v := 96) (by decide) (by decide +kernel)), rfl⟩
theorem eL_law_2778 : dc mL_law 2778 (.iaload) 1 2779 := ⟨d_iaload (bL (p := 2778) (v := 46) (by decide) (by decide +kernel)), rfl⟩
theorem eL_law_2779 : dc mL_law 2779 (.aload_n 0) 1 2780 := ⟨d_aload_0 (bL (p := 2779) (v := 42) (by decide) (by decide +kernel)), rfl⟩
theorem eL_law_2780 : dc mL_law 2780 (.iload 4) 2 2782 := ⟨d_iload (bL (p := 2780) (v := 21) (by decide) (by decide +kernel)) (bL (p := 2781) (v := 4) (by decide) (by decide +kernel)), rfl⟩
theorem eL_law_2782 : dc mL_law 2782 (.iconst 2) 1 2783 := ⟨d_iconst_2 (bL (p := 2782) (v := 5) (by decide) (by decide +kernel)), rfl⟩
theorem eL_law_2783 : dc mL_law 2783 (.iadd) 1 2784 := ⟨d_iadd (bL (p := 2783) (v := 96) (by decide) (by decide +kernel)), rfl⟩
theorem eL_law_2784 : dc mL_law 2784 (.iaload) 1 2785 := ⟨d_iaload (bL (p := 2784) (v := 46) (by decide) (by decide +kernel)), rfl⟩
theorem eL_law_2785 : dc mL_law 2785 (.aload_n 0) 1 2786 := ⟨d_aload_0 (bL (p := 2785) (v := 42) (by decide) (by decide +kernel)), rfl⟩
theorem eL_law_2786 : dc mL_law 2786 (.iload 4) 2 2788 := ⟨d_iload (bL (p := 2786) (v := 21) (by decide) (by decide +kernel)) (bL (p := 2787) (v := 4) (by decide) (by decide +kernel)), rfl⟩
theorem eL_law_2788 : dc mL_law 2788 (.iconst 3) 1 2789 := ⟨d_iconst_3 (bL (p := 2788) (v := 6) (by decide) (by decide +kernel)), rfl⟩
theorem eL_law_2789 : dc mL_law 2789 (.iadd) 1 2790 := ⟨d_iadd (bL (p := 2789) (v := 96) (by decide) (by decide +kernel)), rfl⟩
theorem eL_law_2790 : dc mL_law 2790 (.iaload) 1 2791 := ⟨d_iaload (bL (p := 2790) (v := 46) (by decide) (by decide +kernel)), rfl⟩
theorem eL_law_2791 : dc mL_law 2791 (.aload_n 0) 1 2792 := ⟨d_aload_0 (bL (p := 2791) (v := 42) (by decide) (by decide +kernel)), rfl⟩
theorem eL_law_2792 : dc mL_law 2792 (.iload 4) 2 2794 := ⟨d_iload (bL (p := 2792) (v := 21) (by decide) (by decide +kernel)) (bL (p := 2793) (v := 4) (by decide) (by decide +kernel)), rfl⟩
theorem eL_law_2794 : dc mL_law 2794 (.iconst 4) 1 2795 := ⟨d_iconst_4 (bL (p := 2794) (v := 7) (by decide) (by decide +kernel)), rfl⟩
theorem eL_law_2795 : dc mL_law 2795 (.iadd) 1 2796 := ⟨d_iadd (bL (p := 2795) (v := 96) (by decide) (by decide +kernel)), rfl⟩
theorem eL_law_2796 : dc mL_law 2796 (.iaload) 1 2797 := ⟨d_iaload (bL (p := 2796) (v := 46) (by decide) (by decide +kernel)), rfl⟩
theorem eL_law_2797 : dc mL_law 2797 (.aload_n 0) 1 2798 := ⟨d_aload_0 (bL (p := 2797) (v := 42) (by decide) (by decide +kernel)), rfl⟩
theorem eL_law_2798 : dc mL_law 2798 (.iload 4) 2 2800 := ⟨d_iload (bL (p := 2798) (v := 21) (by decide) (by decide +kernel)) (bL (p := 2799) (v := 4) (by decide) (by decide +kernel)), rfl⟩
theorem eL_law_2800 : dc mL_law 2800 (.iconst 5) 1 2801 := ⟨d_iconst_5 (bL (p := 2800) (v := 8) (by decide) (by decide +kernel)), rfl⟩
theorem eL_law_2801 : dc mL_law 2801 (.iadd) 1 2802 := ⟨d_iadd (bL (p := 2801) (v := 96) (by decide) (by decide +kernel)), rfl⟩
theorem eL_law_2802 : dc mL_law 2802 (.iaload) 1 2803 := ⟨d_iaload (bL (p := 2802) (v := 46) (by decide) (by decide +kernel)), rfl⟩
theorem eL_law_2803 : dc mL_law 2803 (.invokevirtual 239) 3 2806 := ⟨d_invokevirtual (bL (p := 2803) (v := 182) (by decide) (by decide +kernel)) (bL (p := 2804) (v := 0) (by decide) (by decide +kernel)) (bL (p := 2805) (v := 239) (by decide) (by decide +kernel)) (by decide), rfl⟩
theorem eL_law_2806 : dc mL_law 2806 (.istore 6) 2 2808 := ⟨d_istore (bL (p := 2806) (v := 54) (by decide) (by decide +kernel)) (bL (p := 2807) (v := 6) (by decide) (by decide +kernel)), rfl⟩
theorem eL_law_2808 : dc mL_law 2808 (.aload_n 2) 1 2809 := ⟨d_aload_2 (bL (p := 2808) (v := 44) (by decide) (by decide +kernel)), rfl⟩
theorem eL_law_2809 : dc mL_law 2809 (.invokevirtual 141) 3 2812 := ⟨d_invokevirtual (bL (p := 2809) (v := 182) (by decide) (by decide +kernel)) (bL (p := 2810) (v := 0) (by decide) (by decide +kernel)) (bL (p := 2811) (v := 141) (by decide) (by decide +kernel)) (by decide), rfl⟩
theorem eL_law_2812 : dc mL_law 2812 (.iload 5) 2 2814 := ⟨d_iload (bL (p := 2812) (v := 21) (by decide) (by decide +kernel)) (bL (p := 2813) (v := 5) (by decide) (by decide +kernel)), rfl⟩
theorem eL_law_2814 : dc mL_law 2814 (.if_icmp .eq 5) 3 2817 := ⟨d_if_icmp_eq (bL (p := 2814) (v := 159) (by decide) (by decide +kernel)) (bL (p := 2815) (v := 0) (by decide) (by decide +kernel)) (bL (p := 2816) (v := 5) (by decide) (by decide +kernel)) (by decide +kernel), rfl⟩
theorem eL_law_2817 : dc mL_law 2817 (.iconst 0) 1 2818 := ⟨d_iconst_0 (bL (p := 2817) (v := 3) (by decide) (by decide +kernel)), rfl⟩
theorem eL_law_2818 : dc mL_law 2818 (.ireturn) 1 2819 := ⟨d_ireturn (bL (p := 2818) (v := 172) (by decide) (by decide +kernel)), rfl⟩
theorem eL_law_2819 : dc mL_law 2819 (.iload 5) 2 2821 := ⟨d_iload (bL (p := 2819) (v := 21) (by decide) (by decide +kernel)) (bL (p := 2820) (v := 5) (by decide) (by decide +kernel)), rfl⟩
theorem eL_law_2821 : dc mL_law 2821 (.ifCond .ne 15) 3 2824 := ⟨d_ifCond_ne (bL (p := 2821) (v := 154) (by decide) (by decide +kernel)) (bL (p := 2822) (v := 0) (by decide) (by decide +kernel)) (bL (p := 2823) (v := 15) (by decide) (by decide +kernel)) (by decide +kernel), rfl⟩
theorem eL_law_2824 : dc mL_law 2824 (.aload_n 3) 1 2825 := ⟨d_aload_3 (bL (p := 2824) (v := 45) (by decide) (by decide +kernel)), rfl⟩
theorem eL_law_2825 : dc mL_law 2825 (.iconst 0) 1 2826 := ⟨d_iconst_0 (bL (p := 2825) (v := 3) (by decide) (by decide +kernel)), rfl⟩
theorem eL_law_2826 : dc mL_law 2826 (.laload) 1 2827 := ⟨d_laload (bL (p := 2826) (v := 47) (by decide) (by decide +kernel)), rfl⟩
theorem eL_law_2827 : dc mL_law 2827 (.iload 6) 2 2829 := ⟨d_iload (bL (p := 2827) (v := 21) (by decide) (by decide +kernel)) (bL (p := 2828) (v := 6) (by decide) (by decide +kernel)), rfl⟩
theorem eL_law_2829 : dc mL_law 2829 (.i2l) 1 2830 := ⟨d_i2l (bL (p := 2829) (v := 133) (by decide) (by decide +kernel)), rfl⟩
theorem eL_law_2830 : dc mL_law 2830 (.lcmp) 1 2831 := ⟨d_lcmp (bL (p := 2830) (v := 148) (by decide) (by decide +kernel)), rfl⟩
theorem eL_law_2831 : dc mL_law 2831 (.ifCond .eq 5) 3 2834 := ⟨d_ifCond_eq (bL (p := 2831) (v := 153) (by decide) (by decide +kernel)) (bL (p := 2832) (v := 0) (by decide) (by decide +kernel)) (bL (p := 2833) (v := 5) (by decide) (by decide +kernel)) (by decide +kernel), rfl⟩
theorem eL_law_2834 : dc mL_law 2834 (.iconst 0) 1 2835 := ⟨d_iconst_0 (bL (p := 2834) (v := 3) (by decide) (by decide +kernel)), rfl⟩
theorem eL_law_2835 : dc mL_law 2835 (.ireturn) 1 2836 := ⟨d_ireturn (bL (p := 2835) (v := 172) (by decide) (by decide +kernel)), rfl⟩
theorem eL_law_2836 : dc mL_law 2836 (.goto 516) 3 2839 := ⟨d_goto (bL (p := 2836) (v := 167) (by decide) (by decide +kernel)) (bL (p := 2837) (v := 2) (by decide) (by decide +kernel)) (bL (p := 2838) (v := 4) (by decide) (by decide +kernel)) (by decide +kernel), rfl⟩
theorem eL_law_2839 : dc mL_law 2839 (.aload_n 1) 1 2840 := ⟨d_aload_1 (bL (p := 2839) (v := 43) (by decide) (by decide +kernel)), rfl⟩
theorem eL_law_2840 : dc mL_law 2840 (.aload_n 0) 1 2841 := ⟨d_aload_0 (bL (p := 2840) (v := 42) (by decide) (by decide +kernel)), rfl⟩
theorem eL_law_2841 : dc mL_law 2841 (.iload 4) 2 2843 := ⟨d_iload (bL (p := 2841) (v := 21) (by decide) (by decide +kernel)) (bL (p := 2842) (v := 4) (by decide) (by decide +kernel)), rfl⟩
theorem eL_law_2843 : dc mL_law 2843 (.iconst 1) 1 2844 := ⟨d_iconst_1 (bL (p := 2843) (v := 4) (by decide) (by decide +kernel)), rfl⟩
theorem eL_law_2844 : dc mL_law 2844 (.iadd) 1 2845 := ⟨d_iadd (bL (p := 2844) (v := 96) (by decide) (by decide +kernel)), rfl⟩
theorem eL_law_2845 : dc mL_law 2845 (.iaload) 1 2846 := ⟨d_iaload (bL (p := 2845) (v := 46) (by decide) (by decide +kernel)), rfl⟩
theorem eL_law_2846 : dc mL_law 2846 (.aload_n 0) 1 2847 := ⟨d_aload_0 (bL (p := 2846) (v := 42) (by decide) (by decide +kernel)), rfl⟩
theorem eL_law_2847 : dc mL_law 2847 (.iload 4) 2 2849 := ⟨d_iload (bL (p := 2847) (v := 21) (by decide) (by decide +kernel)) (bL (p := 2848) (v := 4) (by decide) (by decide +kernel)), rfl⟩
theorem eL_law_2849 : dc mL_law 2849 (.iconst 2) 1 2850 := ⟨d_iconst_2 (bL (p := 2849) (v := 5) (by decide) (by decide +kernel)), rfl⟩
theorem eL_law_2850 : dc mL_law 2850 (.iadd) 1 2851 := ⟨d_iadd (bL (p := 2850) (v := 96) (by decide) (by decide +kernel)), rfl⟩
theorem eL_law_2851 : dc mL_law 2851 (.iaload) 1 2852 := ⟨d_iaload (bL (p := 2851) (v := 46) (by decide) (by decide +kernel)), rfl⟩
theorem eL_law_2852 : dc mL_law 2852 (.aload_n 3) 1 2853 := ⟨d_aload_3 (bL (p := 2852) (v := 45) (by decide) (by decide +kernel)), rfl⟩
theorem eL_law_2853 : dc mL_law 2853 (.invokestatic 240) 3 2856 := ⟨d_invokestatic (bL (p := 2853) (v := 184) (by decide) (by decide +kernel)) (bL (p := 2854) (v := 0) (by decide) (by decide +kernel)) (bL (p := 2855) (v := 240) (by decide) (by decide +kernel)) (by decide), rfl⟩
theorem eL_law_2856 : dc mL_law 2856 (.istore 5) 2 2858 := ⟨d_istore (bL (p := 2856) (v := 54) (by decide) (by decide +kernel)) (bL (p := 2857) (v := 5) (by decide) (by decide +kernel)), rfl⟩
theorem eL_law_2858 : dc mL_law 2858 (.aload_n 2) 1 2859 := ⟨d_aload_2 (bL (p := 2858) (v := 44) (by decide) (by decide +kernel)), rfl⟩
theorem eL_law_2859 : dc mL_law 2859 (.aload_n 0) 1 2860 := ⟨d_aload_0 (bL (p := 2859) (v := 42) (by decide) (by decide +kernel)), rfl⟩
theorem eL_law_2860 : dc mL_law 2860 (.iload 4) 2 2862 := ⟨d_iload (bL (p := 2860) (v := 21) (by decide) (by decide +kernel)) (bL (p := 2861) (v := 4) (by decide) (by decide +kernel)), rfl⟩
theorem eL_law_2862 : dc mL_law 2862 (.iconst 1) 1 2863 := ⟨d_iconst_1 (bL (p := 2862) (v := 4) (by decide) (by decide +kernel)), rfl⟩
theorem eL_law_2863 : dc mL_law 2863 (.iadd) 1 2864 := ⟨d_iadd (bL (p := 2863) (v := 96) (by decide) (by decide +kernel)), rfl⟩
theorem eL_law_2864 : dc mL_law 2864 (.iaload) 1 2865 := ⟨d_iaload (bL (p := 2864) (v := 46) (by decide) (by decide +kernel)), rfl⟩
theorem eL_law_2865 : dc mL_law 2865 (.aload_n 0) 1 2866 := ⟨d_aload_0 (bL (p := 2865) (v := 42) (by decide) (by decide +kernel)), rfl⟩
theorem eL_law_2866 : dc mL_law 2866 (.iload 4) 2 2868 := ⟨d_iload (bL (p := 2866) (v := 21) (by decide) (by decide +kernel)) (bL (p := 2867) (v := 4) (by decide) (by decide +kernel)), rfl⟩
theorem eL_law_2868 : dc mL_law 2868 (.iconst 2) 1 2869 := ⟨d_iconst_2 (bL (p := 2868) (v := 5) (by decide) (by decide +kernel)), rfl⟩
theorem eL_law_2869 : dc mL_law 2869 (.iadd) 1 2870 := ⟨d_iadd (bL (p := 2869) (v := 96) (by decide) (by decide +kernel)), rfl⟩
theorem eL_law_2870 : dc mL_law 2870 (.iaload) 1 2871 := ⟨d_iaload (bL (p := 2870) (v := 46) (by decide) (by decide +kernel)), rfl⟩
theorem eL_law_2871 : dc mL_law 2871 (.invokevirtual 242) 3 2874 := ⟨d_invokevirtual (bL (p := 2871) (v := 182) (by decide) (by decide +kernel)) (bL (p := 2872) (v := 0) (by decide) (by decide +kernel)) (bL (p := 2873) (v := 242) (by decide) (by decide +kernel)) (by decide), rfl⟩
theorem eL_law_2874 : dc mL_law 2874 (.istore 6) 2 2876 := ⟨d_istore (bL (p := 2874) (v := 54) (by decide) (by decide +kernel)) (bL (p := 2875) (v := 6) (by decide) (by decide +kernel)), rfl⟩
theorem eL_law_2876 : dc mL_law 2876 (.aload_n 2) 1 2877 := ⟨d_aload_2 (bL (p := 2876) (v := 44) (by decide) (by decide +kernel)), rfl⟩
theorem eL_law_2877 : dc mL_law 2877 (.invokevirtual 141) 3 2880 := ⟨d_invokevirtual (bL (p := 2877) (v := 182) (by decide) (by decide +kernel)) (bL (p := 2878) (v := 0) (by decide) (by decide +kernel)) (bL (p := 2879) (v := 141) (by decide) (by decide +kernel)) (by decide), rfl⟩
theorem eL_law_2880 : dc mL_law 2880 (.iload 5) 2 2882 := ⟨d_iload (bL (p := 2880) (v := 21) (by decide) (by decide +kernel)) (bL (p := 2881) (v := 5) (by decide) (by decide +kernel)), rfl⟩
theorem eL_law_2882 : dc mL_law 2882 (.if_icmp .eq 5) 3 2885 := ⟨d_if_icmp_eq (bL (p := 2882) (v := 159) (by decide) (by decide +kernel)) (bL (p := 2883) (v := 0) (by decide) (by decide +kernel)) (bL (p := 2884) (v := 5) (by decide) (by decide +kernel)) (by decide +kernel), rfl⟩
theorem eL_law_2885 : dc mL_law 2885 (.iconst 0) 1 2886 := ⟨d_iconst_0 (bL (p := 2885) (v := 3) (by decide) (by decide +kernel)), rfl⟩
theorem eL_law_2886 : dc mL_law 2886 (.ireturn) 1 2887 := ⟨d_ireturn (bL (p := 2886) (v := 172) (by decide) (by decide +kernel)), rfl⟩
theorem eL_law_2887 : dc mL_law 2887 (.iload 5) 2 2889 := ⟨d_iload (bL (p := 2887) (v := 21) (by decide) (by decide +kernel)) (bL (p := 2888) (v := 5) (by decide) (by decide +kernel)), rfl⟩
theorem eL_law_2889 : dc mL_law 2889 (.ifCond .ne 15) 3 2892 := ⟨d_ifCond_ne (bL (p := 2889) (v := 154) (by decide) (by decide +kernel)) (bL (p := 2890) (v := 0) (by decide) (by decide +kernel)) (bL (p := 2891) (v := 15) (by decide) (by decide +kernel)) (by decide +kernel), rfl⟩
theorem eL_law_2892 : dc mL_law 2892 (.aload_n 3) 1 2893 := ⟨d_aload_3 (bL (p := 2892) (v := 45) (by decide) (by decide +kernel)), rfl⟩
theorem eL_law_2893 : dc mL_law 2893 (.iconst 0) 1 2894 := ⟨d_iconst_0 (bL (p := 2893) (v := 3) (by decide) (by decide +kernel)), rfl⟩
theorem eL_law_2894 : dc mL_law 2894 (.laload) 1 2895 := ⟨d_laload (bL (p := 2894) (v := 47) (by decide) (by decide +kernel)), rfl⟩
theorem eL_law_2895 : dc mL_law 2895 (.iload 6) 2 2897 := ⟨d_iload (bL (p := 2895) (v := 21) (by decide) (by decide +kernel)) (bL (p := 2896) (v := 6) (by decide) (by decide +kernel)), rfl⟩
theorem eL_law_2897 : dc mL_law 2897 (.i2l) 1 2898 := ⟨d_i2l (bL (p := 2897) (v := 133) (by decide) (by decide +kernel)), rfl⟩
theorem eL_law_2898 : dc mL_law 2898 (.lcmp) 1 2899 := ⟨d_lcmp (bL (p := 2898) (v := 148) (by decide) (by decide +kernel)), rfl⟩
theorem eL_law_2899 : dc mL_law 2899 (.ifCond .eq 5) 3 2902 := ⟨d_ifCond_eq (bL (p := 2899) (v := 153) (by decide) (by decide +kernel)) (bL (p := 2900) (v := 0) (by decide) (by decide +kernel)) (bL (p := 2901) (v := 5) (by decide) (by decide +kernel)) (by decide +kernel), rfl⟩
theorem eL_law_2902 : dc mL_law 2902 (.iconst 0) 1 2903 := ⟨d_iconst_0 (bL (p := 2902) (v := 3) (by decide) (by decide +kernel)), rfl⟩
theorem eL_law_2903 : dc mL_law 2903 (.ireturn) 1 2904 := ⟨d_ireturn (bL (p := 2903) (v := 172) (by decide) (by decide +kernel)), rfl⟩
theorem eL_law_2904 : dc mL_law 2904 (.goto 448) 3 2907 := ⟨d_goto (bL (p := 2904) (v := 167) (by decide) (by decide +kernel)) (bL (p := 2905) (v := 1) (by decide) (by decide +kernel)) (bL (p := 2906) (v := 192) (by decide) (by decide +kernel)) (by decide +kernel), rfl⟩
theorem eL_law_2907 : dc mL_law 2907 (.aload_n 1) 1 2908 := ⟨d_aload_1 (bL (p := 2907) (v := 43) (by decide) (by decide +kernel)), rfl⟩
theorem eL_law_2908 : dc mL_law 2908 (.invokevirtual 243) 3 2911 := ⟨d_invokevirtual (bL (p := 2908) (v := 182) (by decide) (by decide +kernel)) (bL (p := 2909) (v := 0) (by decide) (by decide +kernel)) (bL (p := 2910) (v := 243) (by decide) (by decide +kernel)) (by decide), rfl⟩
theorem eL_law_2911 : dc mL_law 2911 (.aload_n 2) 1 2912 := ⟨d_aload_2 (bL (p := 2911) (v := 44) (by decide) (by decide +kernel)), rfl⟩
theorem eL_law_2912 : dc mL_law 2912 (.invokevirtual 246) 3 2915 := ⟨d_invokevirtual (bL (p := 2912) (v := 182) (by decide) (by decide +kernel)) (bL (p := 2913) (v := 0) (by decide) (by decide +kernel)) (bL (p := 2914) (v := 246) (by decide) (by decide +kernel)) (by decide), rfl⟩
theorem eL_law_2915 : dc mL_law 2915 (.if_icmp .eq 437) 3 2918 := ⟨d_if_icmp_eq (bL (p := 2915) (v := 159) (by decide) (by decide +kernel)) (bL (p := 2916) (v := 1) (by decide) (by decide +kernel)) (bL (p := 2917) (v := 181) (by decide) (by decide +kernel)) (by decide +kernel), rfl⟩
theorem eL_law_2918 : dc mL_law 2918 (.iconst 0) 1 2919 := ⟨d_iconst_0 (bL (p := 2918) (v := 3) (by decide) (by decide +kernel)), rfl⟩
theorem eL_law_2919 : dc mL_law 2919 (.ireturn) 1 2920 := ⟨d_ireturn (bL (p := 2919) (v := 172) (by decide) (by decide +kernel)), rfl⟩
theorem eL_law_2920 : dc mL_law 2920 (.aload_n 1) 1 2921 := ⟨d_aload_1 (bL (p := 2920) (v := 43) (by decide) (by decide +kernel)), rfl⟩
theorem eL_law_2921 : dc mL_law 2921 (.aload_n 0) 1 2922 := ⟨d_aload_0 (bL (p := 2921) (v := 42) (by decide) (by decide +kernel)), rfl⟩
theorem eL_law_2922 : dc mL_law 2922 (.iload 4) 2 2924 := ⟨d_iload (bL (p := 2922) (v := 21) (by decide) (by decide +kernel)) (bL (p := 2923) (v := 4) (by decide) (by decide +kernel)), rfl⟩
theorem eL_law_2924 : dc mL_law 2924 (.iconst 1) 1 2925 := ⟨d_iconst_1 (bL (p := 2924) (v := 4) (by decide) (by decide +kernel)), rfl⟩
theorem eL_law_2925 : dc mL_law 2925 (.iadd) 1 2926 := ⟨d_iadd (bL (p := 2925) (v := 96) (by decide) (by decide +kernel)), rfl⟩
theorem eL_law_2926 : dc mL_law 2926 (.iaload) 1 2927 := ⟨d_iaload (bL (p := 2926) (v := 46) (by decide) (by decide +kernel)), rfl⟩
theorem eL_law_2927 : dc mL_law 2927 (.aload_n 0) 1 2928 := ⟨d_aload_0 (bL (p := 2927) (v := 42) (by decide) (by decide +kernel)), rfl⟩
theorem eL_law_2928 : dc mL_law 2928 (.iload 4) 2 2930 := ⟨d_iload (bL (p := 2928) (v := 21) (by decide) (by decide +kernel)) (bL (p := 2929) (v := 4) (by decide) (by decide +kernel)), rfl⟩
theorem eL_law_2930 : dc mL_law 2930 (.iconst 2) 1 2931 := ⟨d_iconst_2 (bL (p := 2930) (v := 5) (by decide) (by decide +kernel)), rfl⟩
theorem eL_law_2931 : dc mL_law 2931 (.iadd) 1 2932 := ⟨d_iadd (bL (p := 2931) (v := 96) (by decide) (by decide +kernel)), rfl⟩
theorem eL_law_2932 : dc mL_law 2932 (.iaload) 1 2933 := ⟨d_iaload (bL (p := 2932) (v := 46) (by decide) (by decide +kernel)), rfl⟩
theorem eL_law_2933 : dc mL_law 2933 (.ifCond .eq 7) 3 2936 := ⟨d_ifCond_eq (bL (p := 2933) (v := 153) (by decide) (by decide +kernel)) (bL (p := 2934) (v := 0) (by decide) (by decide +kernel)) (bL (p := 2935) (v := 7) (by decide) (by decide +kernel)) (by decide +kernel), rfl⟩
theorem eL_law_2936 : dc mL_law 2936 (.iconst 1) 1 2937 := ⟨d_iconst_1 (bL (p := 2936) (v := 4) (by decide) (by decide +kernel)), rfl⟩
theorem eL_law_2937 : dc mL_law 2937 (.goto 4) 3 2940 := ⟨d_goto (bL (p := 2937) (v := 167) (by decide) (by decide +kernel)) (bL (p := 2938) (v := 0) (by decide) (by decide +kernel)) (bL (p := 2939) (v := 4) (by decide) (by decide +kernel)) (by decide +kernel), rfl⟩
theorem eL_law_2940 : dc mL_law 2940 (.iconst 0) 1 2941 := ⟨d_iconst_0 (bL (p := 2940) (v := 3) (by decide) (by decide +kernel)), rfl⟩
theorem eL_law_2941 : dc mL_law 2941 (.aload_n 3) 1 2942 := ⟨d_aload_3 (bL (p := 2941) (v := 45) (by decide) (by decide +kernel)), rfl⟩
theorem eL_law_2942 : dc mL_law 2942 (.invokestatic 247) 3 2945 := ⟨d_invokestatic (bL (p := 2942) (v := 184) (by decide) (by decide +kernel)) (bL (p := 2943) (v := 0) (by decide) (by decide +kernel)) (bL (p := 2944) (v := 247) (by decide) (by decide +kernel)) (by decide), rfl⟩
theorem eL_law_2945 : dc mL_law 2945 (.istore 5) 2 2947 := ⟨d_istore (bL (p := 2945) (v := 54) (by decide) (by decide +kernel)) (bL (p := 2946) (v := 5) (by decide) (by decide +kernel)), rfl⟩
theorem eL_law_2947 : dc mL_law 2947 (.aload_n 2) 1 2948 := ⟨d_aload_2 (bL (p := 2947) (v := 44) (by decide) (by decide +kernel)), rfl⟩
theorem eL_law_2948 : dc mL_law 2948 (.aload_n 0) 1 2949 := ⟨d_aload_0 (bL (p := 2948) (v := 42) (by decide) (by decide +kernel)), rfl⟩
theorem eL_law_2949 : dc mL_law 2949 (.iload 4) 2 2951 := ⟨d_iload (bL (p := 2949) (v := 21) (by decide) (by decide +kernel)) (bL (p := 2950) (v := 4) (by decide) (by decide +kernel)), rfl⟩
theorem eL_law_2951 : dc mL_law 2951 (.iconst 1) 1 2952 := ⟨d_iconst_1 (bL (p := 2951) (v := 4) (by decide) (by decide +kernel)), rfl⟩
theorem eL_law_2952 : dc mL_law 2952 (.iadd) 1 2953 := ⟨d_iadd (bL (p := 2952) (v := 96) (by decide) (by decide +kernel)), rfl⟩
theorem eL_law_2953 : dc mL_law 2953 (.iaload) 1 2954 := ⟨d_iaload (bL (p := 2953) (v := 46) (by decide) (by decide +kernel)), rfl⟩
theorem eL_law_2954 : dc mL_law 2954 (.aload_n 0) 1 2955 := ⟨d_aload_0 (bL (p := 2954) (v := 42) (by decide) (by decide +kernel)), rfl⟩
theorem eL_law_2955 : dc mL_law 2955 (.iload 4) 2 2957 := ⟨d_iload (bL (p := 2955) (v := 21) (by decide) (by decide +kernel)) (bL (p := 2956) (v := 4) (by decide) (by decide +kernel)), rfl⟩
theorem eL_law_2957 : dc mL_law 2957 (.iconst 2) 1 2958 := ⟨d_iconst_2 (bL (p := 2957) (v := 5) (by decide) (by decide +kernel)), rfl⟩
theorem eL_law_2958 : dc mL_law 2958 (.iadd) 1 2959 := ⟨d_iadd (bL (p := 2958) (v := 96) (by decide) (by decide +kernel)), rfl⟩
theorem eL_law_2959 : dc mL_law 2959 (.iaload) 1 2960 := ⟨d_iaload (bL (p := 2959) (v := 46) (by decide) (by decide +kernel)), rfl⟩
theorem eL_law_2960 : dc mL_law 2960 (.ifCond .eq 7) 3 2963 := ⟨d_ifCond_eq (bL (p := 2960) (v := 153) (by decide) (by decide +kernel)) (bL (p := 2961) (v := 0) (by decide) (by decide +kernel)) (bL (p := 2962) (v := 7) (by decide) (by decide +kernel)) (by decide +kernel), rfl⟩
theorem eL_law_2963 : dc mL_law 2963 (.iconst 1) 1 2964 := ⟨d_iconst_1 (bL (p := 2963) (v := 4) (by decide) (by decide +kernel)), rfl⟩
theorem eL_law_2964 : dc mL_law 2964 (.goto 4) 3 2967 := ⟨d_goto (bL (p := 2964) (v := 167) (by decide) (by decide +kernel)) (bL (p := 2965) (v := 0) (by decide) (by decide +kernel)) (bL (p := 2966) (v := 4) (by decide) (by decide +kernel)) (by decide +kernel), rfl⟩
theorem eL_law_2967 : dc mL_law 2967 (.iconst 0) 1 2968 := ⟨d_iconst_0 (bL (p := 2967) (v := 3) (by decide) (by decide +kernel)), rfl⟩
theorem eL_law_2968 : dc mL_law 2968 (.invokevirtual 250) 3 2971 := ⟨d_invokevirtual (bL (p := 2968) (v := 182) (by decide) (by decide +kernel)) (bL (p := 2969) (v := 0) (by decide) (by decide +kernel)) (bL (p := 2970) (v := 250) (by decide) (by decide +kernel)) (by decide), rfl⟩
theorem eL_law_2971 : dc mL_law 2971 (.istore 6) 2 2973 := ⟨d_istore (bL (p := 2971) (v := 54) (by decide) (by decide +kernel)) (bL (p := 2972) (v := 6) (by decide) (by decide +kernel)), rfl⟩
theorem eL_law_2973 : dc mL_law 2973 (.aload_n 2) 1 2974 := ⟨d_aload_2 (bL (p := 2973) (v := 44) (by decide) (by decide +kernel)), rfl⟩
theorem eL_law_2974 : dc mL_law 2974 (.invokevirtual 141) 3 2977 := ⟨d_invokevirtual (bL (p := 2974) (v := 182) (by decide) (by decide +kernel)) (bL (p := 2975) (v := 0) (by decide) (by decide +kernel)) (bL (p := 2976) (v := 141) (by decide) (by decide +kernel)) (by decide), rfl⟩
theorem eL_law_2977 : dc mL_law 2977 (.iload 5) 2 2979 := ⟨d_iload (bL (p := 2977) (v := 21) (by decide) (by decide +kernel)) (bL (p := 2978) (v := 5) (by decide) (by decide +kernel)), rfl⟩
theorem eL_law_2979 : dc mL_law 2979 (.if_icmp .eq 5) 3 2982 := ⟨d_if_icmp_eq (bL (p := 2979) (v := 159) (by decide) (by decide +kernel)) (bL (p := 2980) (v := 0) (by decide) (by decide +kernel)) (bL (p := 2981) (v := 5) (by decide) (by decide +kernel)) (by decide +kernel), rfl⟩
theorem eL_law_2982 : dc mL_law 2982 (.iconst 0) 1 2983 := ⟨d_iconst_0 (bL (p := 2982) (v := 3) (by decide) (by decide +kernel)), rfl⟩
theorem eL_law_2983 : dc mL_law 2983 (.ireturn) 1 2984 := ⟨d_ireturn (bL (p := 2983) (v := 172) (by decide) (by decide +kernel)), rfl⟩
theorem eL_law_2984 : dc mL_law 2984 (.iload 5) 2 2986 := ⟨d_iload (bL (p := 2984) (v := 21) (by decide) (by decide +kernel)) (bL (p := 2985) (v := 5) (by decide) (by decide +kernel)), rfl⟩
theorem eL_law_2986 : dc mL_law 2986 (.ifCond .ne 15) 3 2989 := ⟨d_ifCond_ne (bL (p := 2986) (v := 154) (by decide) (by decide +kernel)) (bL (p := 2987) (v := 0) (by decide) (by decide +kernel)) (bL (p := 2988) (v := 15) (by decide) (by decide +kernel)) (by decide +kernel), rfl⟩
theorem eL_law_2989 : dc mL_law 2989 (.aload_n 3) 1 2990 := ⟨d_aload_3 (bL (p := 2989) (v := 45) (by decide) (by decide +kernel)), rfl⟩
theorem eL_law_2990 : dc mL_law 2990 (.iconst 0) 1 2991 := ⟨d_iconst_0 (bL (p := 2990) (v := 3) (by decide) (by decide +kernel)), rfl⟩
theorem eL_law_2991 : dc mL_law 2991 (.laload) 1 2992 := ⟨d_laload (bL (p := 2991) (v := 47) (by decide) (by decide +kernel)), rfl⟩
theorem eL_law_2992 : dc mL_law 2992 (.iload 6) 2 2994 := ⟨d_iload (bL (p := 2992) (v := 21) (by decide) (by decide +kernel)) (bL (p := 2993) (v := 6) (by decide) (by decide +kernel)), rfl⟩
theorem eL_law_2994 : dc mL_law 2994 (.i2l) 1 2995 := ⟨d_i2l (bL (p := 2994) (v := 133) (by decide) (by decide +kernel)), rfl⟩
theorem eL_law_2995 : dc mL_law 2995 (.lcmp) 1 2996 := ⟨d_lcmp (bL (p := 2995) (v := 148) (by decide) (by decide +kernel)), rfl⟩
theorem eL_law_2996 : dc mL_law 2996 (.ifCond .eq 5) 3 2999 := ⟨d_ifCond_eq (bL (p := 2996) (v := 153) (by decide) (by decide +kernel)) (bL (p := 2997) (v := 0) (by decide) (by decide +kernel)) (bL (p := 2998) (v := 5) (by decide) (by decide +kernel)) (by decide +kernel), rfl⟩
theorem eL_law_2999 : dc mL_law 2999 (.iconst 0) 1 3000 := ⟨d_iconst_0 (bL (p := 2999) (v := 3) (by decide) (by decide +kernel)), rfl⟩
theorem eL_law_3000 : dc mL_law 3000 (.ireturn) 1 3001 := ⟨d_ireturn (bL (p := 3000) (v := 172) (by decide) (by decide +kernel)), rfl⟩
theorem eL_law_3001 : dc mL_law 3001 (.goto 351) 3 3004 := ⟨d_goto (bL (p := 3001) (v := 167) (by decide) (by decide +kernel)) (bL (p := 3002) (v := 1) (by decide) (by decide +kernel)) (bL (p := 3003) (v := 95) (by decide) (by decide +kernel)) (by decide +kernel), rfl⟩
theorem eL_law_3004 : dc mL_law 3004 (.aload_n 1) 1 3005 := ⟨d_aload_1 (bL (p := 3004) (v := 43) (by decide) (by decide +kernel)), rfl⟩
theorem eL_law_3005 : dc mL_law 3005 (.aload_n 0) 1 3006 := ⟨d_aload_0 (bL (p := 3005) (v := 42) (by decide) (by decide +kernel)), rfl⟩
theorem eL_law_3006 : dc mL_law 3006 (.iload 4) 2 3008 := ⟨d_iload (bL (p := 3006) (v := 21) (by decide) (by decide +kernel)) (bL (p := 3007) (v := 4) (by decide) (by decide +kernel)), rfl⟩
theorem eL_law_3008 : dc mL_law 3008 (.iconst 1) 1 3009 := ⟨d_iconst_1 (bL (p := 3008) (v := 4) (by decide) (by decide +kernel)), rfl⟩
theorem eL_law_3009 : dc mL_law 3009 (.iadd) 1 3010 := ⟨d_iadd (bL (p := 3009) (v := 96) (by decide) (by decide +kernel)), rfl⟩
theorem eL_law_3010 : dc mL_law 3010 (.iaload) 1 3011 := ⟨d_iaload (bL (p := 3010) (v := 46) (by decide) (by decide +kernel)), rfl⟩
theorem eL_law_3011 : dc mL_law 3011 (.aload_n 0) 1 3012 := ⟨d_aload_0 (bL (p := 3011) (v := 42) (by decide) (by decide +kernel)), rfl⟩
theorem eL_law_3012 : dc mL_law 3012 (.iload 4) 2 3014 := ⟨d_iload (bL (p := 3012) (v := 21) (by decide) (by decide +kernel)) (bL (p := 3013) (v := 4) (by decide) (by decide +kernel)), rfl⟩
theorem eL_law_3014 : dc mL_law 3014 (.iconst 2) 1 3015 := ⟨d_iconst_2 (bL (p := 3014) (v := 5) (by decide) (by decide +kernel)), rfl⟩
theorem eL_law_3015 : dc mL_law 3015 (.iadd) 1 3016 := ⟨d_iadd (bL (p := 3015) (v := 96) (by decide) (by decide +kernel)), rfl⟩
theorem eL_law_3016 : dc mL_law 3016 (.iaload) 1 3017 := ⟨d_iaload (bL (p := 3016) (v := 46) (by decide) (by decide +kernel)), rfl⟩
theorem eL_law_3017 : dc mL_law 3017 (.aload_n 0) 1 3018 := ⟨d_aload_0 (bL (p := 3017) (v := 42) (by decide) (by decide +kernel)), rfl⟩
theorem eL_law_3018 : dc mL_law 3018 (.iload 4) 2 3020 := ⟨d_iload (bL (p := 3018) (v := 21) (by decide) (by decide +kernel)) (bL (p := 3019) (v := 4) (by decide) (by decide +kernel)), rfl⟩
theorem eL_law_3020 : dc mL_law 3020 (.iconst 3) 1 3021 := ⟨d_iconst_3 (bL (p := 3020) (v := 6) (by decide) (by decide +kernel)), rfl⟩
theorem eL_law_3021 : dc mL_law 3021 (.iadd) 1 3022 := ⟨d_iadd (bL (p := 3021) (v := 96) (by decide) (by decide +kernel)), rfl⟩
theorem eL_law_3022 : dc mL_law 3022 (.iaload) 1 3023 := ⟨d_iaload (bL (p := 3022) (v := 46) (by decide) (by decide +kernel)), rfl⟩
theorem eL_law_3023 : dc mL_law 3023 (.invokestatic 251) 3 3026 := ⟨d_invokestatic (bL (p := 3023) (v := 184) (by decide) (by decide +kernel)) (bL (p := 3024) (v := 0) (by decide) (by decide +kernel)) (bL (p := 3025) (v := 251) (by decide) (by decide +kernel)) (by decide), rfl⟩
theorem eL_law_3026 : dc mL_law 3026 (.istore 5) 2 3028 := ⟨d_istore (bL (p := 3026) (v := 54) (by decide) (by decide +kernel)) (bL (p := 3027) (v := 5) (by decide) (by decide +kernel)), rfl⟩
theorem eL_law_3028 : dc mL_law 3028 (.aload_n 2) 1 3029 := ⟨d_aload_2 (bL (p := 3028) (v := 44) (by decide) (by decide +kernel)), rfl⟩
theorem eL_law_3029 : dc mL_law 3029 (.aload_n 0) 1 3030 := ⟨d_aload_0 (bL (p := 3029) (v := 42) (by decide) (by decide +kernel)), rfl⟩
theorem eL_law_3030 : dc mL_law 3030 (.iload 4) 2 3032 := ⟨d_iload (bL (p := 3030) (v := 21) (by decide) (by decide +kernel)) (bL (p := 3031) (v := 4) (by decide) (by decide +kernel)), rfl⟩
theorem eL_law_3032 : dc mL_law 3032 (.iconst 1) 1 3033 := ⟨d_iconst_1 (bL (p := 3032) (v := 4) (by decide) (by decide +kernel)), rfl⟩
theorem eL_law_3033 : dc mL_law 3033 (.iadd) 1 3034 := ⟨d_iadd (bL (p := 3033) (v := 96) (by decide) (by decide +kernel)), rfl⟩
theorem eL_law_3034 : dc mL_law 3034 (.iaload) 1 3035 := ⟨d_iaload (bL (p := 3034) (v := 46) (by decide) (by decide +kernel)), rfl⟩
theorem eL_law_3035 : dc mL_law 3035 (.aload_n 0) 1 3036 := ⟨d_aload_0 (bL (p := 3035) (v := 42) (by decide) (by decide +kernel)), rfl⟩
theorem eL_law_3036 : dc mL_law 3036 (.iload 4) 2 3038 := ⟨d_iload (bL (p := 3036) (v := 21) (by decide) (by decide +kernel)) (bL (p := 3037) (v := 4) (by decide) (by decide +kernel)), rfl⟩
theorem eL_law_3038 : dc mL_law 3038 (.iconst 2) 1 3039 := ⟨d_iconst_2 (bL (p := 3038) (v := 5) (by decide) (by decide +kernel)), rfl⟩
theorem eL_law_3039 : dc mL_law 3039 (.iadd) 1 3040 := ⟨d_iadd (bL (p := 3039) (v := 96) (by decide) (by decide +kernel)), rfl⟩
theorem eL_law_3040 : dc mL_law 3040 (.iaload) 1 3041 := ⟨d_iaload (bL (p := 3040) (v := 46) (by decide) (by decide +kernel)), rfl⟩
theorem eL_law_3041 : dc mL_law 3041 (.aload_n 0) 1 3042 := ⟨d_aload_0 (bL (p := 3041) (v := 42) (by decide) (by decide +kernel)), rfl⟩
theorem eL_law_3042 : dc mL_law 3042 (.iload 4) 2 3044 := ⟨d_iload (bL (p := 3042) (v := 21) (by decide) (by decide +kernel)) (bL (p := 3043) (v := 4) (by decide) (by decide +kernel)), rfl⟩
theorem eL_law_3044 : dc mL_law 3044 (.iconst 3) 1 3045 := ⟨d_iconst_3 (bL (p := 3044) (v := 6) (by decide) (by decide +kernel)), rfl⟩
theorem eL_law_3045 : dc mL_law 3045 (.iadd) 1 3046 := ⟨d_iadd (bL (p := 3045) (v := 96) (by decide) (by decide +kernel)), rfl⟩
theorem eL_law_3046 : dc mL_law 3046 (.iaload) 1 3047 := ⟨d_iaload (bL (p := 3046) (v := 46) (by decide) (by decide +kernel)), rfl⟩
theorem eL_law_3047 : dc mL_law 3047 (.invokevirtual 254) 3 3050 := ⟨d_invokevirtual (bL (p := 3047) (v := 182) (by decide) (by decide +kernel)) (bL (p := 3048) (v := 0) (by decide) (by decide +kernel)) (bL (p := 3049) (v := 254) (by decide) (by decide +kernel)) (by decide), rfl⟩
theorem eL_law_3050 : dc mL_law 3050 (.aload_n 2) 1 3051 := ⟨d_aload_2 (bL (p := 3050) (v := 44) (by decide) (by decide +kernel)), rfl⟩
theorem eL_law_3051 : dc mL_law 3051 (.invokevirtual 141) 3 3054 := ⟨d_invokevirtual (bL (p := 3051) (v := 182) (by decide) (by decide +kernel)) (bL (p := 3052) (v := 0) (by decide) (by decide +kernel)) (bL (p := 3053) (v := 141) (by decide) (by decide +kernel)) (by decide), rfl⟩
theorem eL_law_3054 : dc mL_law 3054 (.iload 5) 2 3056 := ⟨d_iload (bL (p := 3054) (v := 21) (by decide) (by decide +kernel)) (bL (p := 3055) (v := 5) (by decide) (by decide +kernel)), rfl⟩
theorem eL_law_3056 : dc mL_law 3056 (.if_icmp .eq 5) 3 3059 := ⟨d_if_icmp_eq (bL (p := 3056) (v := 159) (by decide) (by decide +kernel)) (bL (p := 3057) (v := 0) (by decide) (by decide +kernel)) (bL (p := 3058) (v := 5) (by decide) (by decide +kernel)) (by decide +kernel), rfl⟩
theorem eL_law_3059 : dc mL_law 3059 (.iconst 0) 1 3060 := ⟨d_iconst_0 (bL (p := 3059) (v := 3) (by decide) (by decide +kernel)), rfl⟩
theorem eL_law_3060 : dc mL_law 3060 (.ireturn) 1 3061 := ⟨d_ireturn (bL (p := 3060) (v := 172) (by decide) (by decide +kernel)), rfl⟩
theorem eL_law_3061 : dc mL_law 3061 (.goto 291) 3 3064 := ⟨d_goto (bL (p := 3061) (v := 167) (by decide) (by decide +kernel)) (bL (p := 3062) (v := 1) (by decide) (by decide +kernel)) (bL (p := 3063) (v := 35) (by decide) (by decide +kernel)) (by decide +kernel), rfl⟩
theorem eL_law_3064 : dc mL_law 3064 (.aload_n 1) 1 3065 := ⟨d_aload_1 (bL (p := 3064) (v := 43) (by decide) (by decide +kernel)), rfl⟩
theorem eL_law_3065 : dc mL_law 3065 (.aload_n 0) 1 3066 := ⟨d_aload_0 (bL (p := 3065) (v := 42) (by decide) (by decide +kernel)), rfl⟩
theorem eL_law_3066 : dc mL_law 3066 (.iload 4) 2 3068 := ⟨d_iload (bL (p := 3066) (v := 21) (by decide) (by decide +kernel)) (bL (p := 3067) (v := 4) (by decide) (by decide +kernel)), rfl⟩
theorem eL_law_3068 : dc mL_law 3068 (.iconst 1) 1 3069 := ⟨d_iconst_1 (bL (p := 3068) (v := 4) (by decide) (by decide +kernel)), rfl⟩
theorem eL_law_3069 : dc mL_law 3069 (.iadd) 1 3070 := ⟨d_iadd (bL (p := 3069) (v := 96) (by decide) (by decide +kernel)), rfl⟩
theorem eL_law_3070 : dc mL_law 3070 (.iaload) 1 3071 := ⟨d_iaload (bL (p := 3070) (v := 46) (by decide) (by decide +kernel)), rfl⟩
theorem eL_law_3071 : dc mL_law 3071 (.aload_n 0) 1 3072 := ⟨d_aload_0 (bL (p := 3071) (v := 42) (by decide) (by decide +kernel)), rfl⟩
theorem eL_law_3072 : dc mL_law 3072 (.iload 4) 2 3074 := ⟨d_iload (bL (p := 3072) (v := 21) (by decide) (by decide +kernel)) (bL (p := 3073) (v := 4) (by decide) (by decide +kernel)), rfl⟩
theorem eL_law_3074 : dc mL_law 3074 (.iconst 2) 1 3075 := ⟨d_iconst_2 (bL (p := 3074) (v := 5) (by decide) (by decide +kernel)), rfl⟩
theorem eL_law_3075 : dc mL_law 3075 (.iadd) 1 3076 := ⟨d_iadd (bL (p := 3075) (v := 96) (by decide) (by decide +kernel)), rfl⟩
theorem eL_law_3076 : dc mL_law 3076 (.iaload) 1 3077 := ⟨d_iaload (bL (p := 3076) (v := 46) (by decide) (by decide +kernel)), rfl⟩
theorem eL_law_3077 : dc mL_law 3077 (.aload_n 0) 1 3078 := ⟨d_aload_0 (bL (p := 3077) (v := 42) (by decide) (by decide +kernel)), rfl⟩
theorem eL_law_3078 : dc mL_law 3078 (.iload 4) 2 3080 := ⟨d_iload (bL (p := 3078) (v := 21) (by decide) (by decide +kernel)) (bL (p := 3079) (v := 4) (by decide) (by decide +kernel)), rfl⟩
theorem eL_law_3080 : dc mL_law 3080 (.iconst 3) 1 3081 := ⟨d_iconst_3 (bL (p := 3080) (v := 6) (by decide) (by decide +kernel)), rfl⟩
theorem eL_law_3081 : dc mL_law 3081 (.iadd) 1 3082 := ⟨d_iadd (bL (p := 3081) (v := 96) (by decide) (by decide +kernel)), rfl⟩
theorem eL_law_3082 : dc mL_law 3082 (.iaload) 1 3083 := ⟨d_iaload (bL (p := 3082) (v := 46) (by decide) (by decide +kernel)), rfl⟩
theorem eL_law_3083 : dc mL_law 3083 (.i2l) 1 3084 := ⟨d_i2l (bL (p := 3083) (v := 133) (by decide) (by decide +kernel)), rfl⟩
theorem eL_law_3084 : dc mL_law 3084 (.bipush 32) 2 3086 := ⟨d_bipush (bL (p := 3084) (v := 16) (by decide) (by decide +kernel)) (bL (p := 3085) (v := 32) (by decide) (by decide +kernel)) (by decide +kernel), rfl⟩
theorem eL_law_3086 : dc mL_law 3086 (.lshl) 1 3087 := ⟨d_lshl (bL (p := 3086) (v := 121) (by decide) (by decide +kernel)), rfl⟩
theorem eL_law_3087 : dc mL_law 3087 (.aload_n 0) 1 3088 := ⟨d_aload_0 (bL (p := 3087) (v := 42) (by decide) (by decide +kernel)), rfl⟩
theorem eL_law_3088 : dc mL_law 3088 (.iload 4) 2 3090 := ⟨d_iload (bL (p := 3088) (v := 21) (by decide) (by decide +kernel)) (bL (p := 3089) (v := 4) (by decide) (by decide +kernel)), rfl⟩
theorem eL_law_3090 : dc mL_law 3090 (.iconst 4) 1 3091 := ⟨d_iconst_4 (bL (p := 3090) (v := 7) (by decide) (by decide +kernel)), rfl⟩
theorem eL_law_3091 : dc mL_law 3091 (.iadd) 1 3092 := ⟨d_iadd (bL (p := 3091) (v := 96) (by decide) (by decide +kernel)), rfl⟩
theorem eL_law_3092 : dc mL_law 3092 (.iaload) 1 3093 := ⟨d_iaload (bL (p := 3092) (v := 46) (by decide) (by decide +kernel)), rfl⟩
theorem eL_law_3093 : dc mL_law 3093 (.i2l) 1 3094 := ⟨d_i2l (bL (p := 3093) (v := 133) (by decide) (by decide +kernel)), rfl⟩
theorem eL_law_3094 : dc mL_law 3094 (.ldc2_w 255) 3 3097 := ⟨d_ldc2_w (bL (p := 3094) (v := 20) (by decide) (by decide +kernel)) (bL (p := 3095) (v := 0) (by decide) (by decide +kernel)) (bL (p := 3096) (v := 255) (by decide) (by decide +kernel)) (by decide), rfl⟩
theorem eL_law_3097 : dc mL_law 3097 (.land) 1 3098 := ⟨d_land (bL (p := 3097) (v := 127) (by decide) (by decide +kernel)), rfl⟩
theorem eL_law_3098 : dc mL_law 3098 (.lor) 1 3099 := ⟨d_lor (bL (p := 3098) (v := 129) (by decide) (by decide +kernel)), rfl⟩
theorem eL_law_3099 : dc mL_law 3099 (.aload_n 3) 1 3100 := ⟨d_aload_3 (bL (p := 3099) (v := 45) (by decide) (by decide +kernel)), rfl⟩
theorem eL_law_3100 : dc mL_law 3100 (.invokestatic 257) 3 3103 := ⟨d_invokestatic (bL (p := 3100) (v := 184) (by decide) (by decide +kernel)) (bL (p := 3101) (v := 1) (by decide) (by decide +kernel)) (bL (p := 3102) (v := 1) (by decide) (by decide +kernel)) (by decide), rfl⟩
theorem eL_law_3103 : dc mL_law 3103 (.istore 5) 2 3105 := ⟨d_istore (bL (p := 3103) (v := 54) (by decide) (by decide +kernel)) (bL (p := 3104) (v := 5) (by decide) (by decide +kernel)), rfl⟩
theorem eL_law_3105 : dc mL_law 3105 (.aload_n 2) 1 3106 := ⟨d_aload_2 (bL (p := 3105) (v := 44) (by decide) (by decide +kernel)), rfl⟩
theorem eL_law_3106 : dc mL_law 3106 (.aload_n 0) 1 3107 := ⟨d_aload_0 (bL (p := 3106) (v := 42) (by decide) (by decide +kernel)), rfl⟩
theorem eL_law_3107 : dc mL_law 3107 (.iload 4) 2 3109 := ⟨d_iload (bL (p := 3107) (v := 21) (by decide) (by decide +kernel)) (bL (p := 3108) (v := 4) (by decide) (by decide +kernel)), rfl⟩
theorem eL_law_3109 : dc mL_law 3109 (.iconst 1) 1 3110 := ⟨d_iconst_1 (bL (p := 3109) (v := 4) (by decide) (by decide +kernel)), rfl⟩
theorem eL_law_3110 : dc mL_law 3110 (.iadd) 1 3111 := ⟨d_iadd (bL (p := 3110) (v := 96) (by decide) (by decide +kernel)), rfl⟩
theorem eL_law_3111 : dc mL_law 3111 (.iaload) 1 3112 := ⟨d_iaload (bL (p := 3111) (v := 46) (by decide) (by decide +kernel)), rfl⟩
theorem eL_law_3112 : dc mL_law 3112 (.aload_n 0) 1 3113 := ⟨d_aload_0 (bL (p := 3112) (v := 42) (by decide) (by decide +kernel)), rfl⟩
theorem eL_law_3113 : dc mL_law 3113 (.iload 4) 2 3115 := ⟨d_iload (bL (p := 3113) (v := 21) (by decide) (by decide +kernel)) (bL (p := 3114) (v := 4) (by decide) (by decide +kernel)), rfl⟩
theorem eL_law_3115 : dc mL_law 3115 (.iconst 2) 1 3116 := ⟨d_iconst_2 (bL (p := 3115) (v := 5) (by decide) (by decide +kernel)), rfl⟩
theorem eL_law_3116 : dc mL_law 3116 (.iadd) 1 3117 := ⟨d_iadd (bL (p := 3116) (v := 96) (by decide) (by decide +kernel)), rfl⟩
theorem eL_law_3117 : dc mL_law 3117 (.iaload) 1 3118 := ⟨d_iaload (bL (p := 3117) (v := 46) (by decide) (by decide +kernel)), rfl⟩
theorem eL_law_3118 : dc mL_law 3118 (.aload_n 0) 1 3119 := ⟨d_aload_0 (bL (p := 3118) (v := 42) (by decide) (by decide +kernel)), rfl⟩
theorem eL_law_3119 : dc mL_law 3119 (.iload 4) 2 3121 := ⟨d_iload (bL (p := 3119) (v := 21) (by decide) (by decide +kernel)) (bL (p := 3120) (v := 4) (by decide) (by decide +kernel)), rfl⟩
theorem eL_law_3121 : dc mL_law 3121 (.iconst 3) 1 3122 := ⟨d_iconst_3 (bL (p := 3121) (v := 6) (by decide) (by decide +kernel)), rfl⟩
theorem eL_law_3122 : dc mL_law 3122 (.iadd) 1 3123 := ⟨d_iadd (bL (p := 3122) (v := 96) (by decide) (by decide +kernel)), rfl⟩
theorem eL_law_3123 : dc mL_law 3123 (.iaload) 1 3124 := ⟨d_iaload (bL (p := 3123) (v := 46) (by decide) (by decide +kernel)), rfl⟩
theorem eL_law_3124 : dc mL_law 3124 (.i2l) 1 3125 := ⟨d_i2l (bL (p := 3124) (v := 133) (by decide) (by decide +kernel)), rfl⟩
theorem eL_law_3125 : dc mL_law 3125 (.bipush 32) 2 3127 := ⟨d_bipush (bL (p := 3125) (v := 16) (by decide) (by decide +kernel)) (bL (p := 3126) (v := 32) (by decide) (by decide +kernel)) (by decide +kernel), rfl⟩
theorem eL_law_3127 : dc mL_law 3127 (.lshl) 1 3128 := ⟨d_lshl (bL (p := 3127) (v := 121) (by decide) (by decide +kernel)), rfl⟩
theorem eL_law_3128 : dc mL_law 3128 (.aload_n 0) 1 3129 := ⟨d_aload_0 (bL (p := 3128) (v := 42) (by decide) (by decide +kernel)), rfl⟩
theorem eL_law_3129 : dc mL_law 3129 (.iload 4) 2 3131 := ⟨d_iload (bL (p := 3129) (v := 21) (by decide) (by decide +kernel)) (bL (p := 3130) (v := 4) (by decide) (by decide +kernel)), rfl⟩
theorem eL_law_3131 : dc mL_law 3131 (.iconst 4) 1 3132 := ⟨d_iconst_4 (bL (p := 3131) (v := 7) (by decide) (by decide +kernel)), rfl⟩
theorem eL_law_3132 : dc mL_law 3132 (.iadd) 1 3133 := ⟨d_iadd (bL (p := 3132) (v := 96) (by decide) (by decide +kernel)), rfl⟩
theorem eL_law_3133 : dc mL_law 3133 (.iaload) 1 3134 := ⟨d_iaload (bL (p := 3133) (v := 46) (by decide) (by decide +kernel)), rfl⟩
theorem eL_law_3134 : dc mL_law 3134 (.i2l) 1 3135 := ⟨d_i2l (bL (p := 3134) (v := 133) (by decide) (by decide +kernel)), rfl⟩
theorem eL_law_3135 : dc mL_law 3135 (.ldc2_w 255) 3 3138 := ⟨d_ldc2_w (bL (p := 3135) (v := 20) (by decide) (by decide +kernel)) (bL (p := 3136) (v := 0) (by decide) (by decide +kernel)) (bL (p := 3137) (v := 255) (by decide) (by decide +kernel)) (by decide), rfl⟩
theorem eL_law_3138 : dc mL_law 3138 (.land) 1 3139 := ⟨d_land (bL (p := 3138) (v := 127) (by decide) (by decide +kernel)), rfl⟩
theorem eL_law_3139 : dc mL_law 3139 (.lor) 1 3140 := ⟨d_lor (bL (p := 3139) (v := 129) (by decide) (by decide +kernel)), rfl⟩
theorem eL_law_3140 : dc mL_law 3140 (.invokevirtual 260) 3 3143 := ⟨d_invokevirtual (bL (p := 3140) (v := 182) (by decide) (by decide +kernel)) (bL (p := 3141) (v := 1) (by decide) (by decide +kernel)) (bL (p := 3142) (v := 4) (by decide) (by decide +kernel)) (by decide), rfl⟩
theorem eL_law_3143 : dc mL_law 3143 (.lstore 6) 2 3145 := ⟨d_lstore (bL (p := 3143) (v := 55) (by decide) (by decide +kernel)) (bL (p := 3144) (v := 6) (by decide) (by decide +kernel)), rfl⟩
theorem eL_law_3145 : dc mL_law 3145 (.aload_n 2) 1 3146 := ⟨d_aload_2 (bL (p := 3145) (v := 44) (by decide) (by decide +kernel)), rfl⟩
theorem eL_law_3146 : dc mL_law 3146 (.invokevirtual 141) 3 3149 := ⟨d_invokevirtual (bL (p := 3146) (v := 182) (by decide) (by decide +kernel)) (bL (p := 3147) (v := 0) (by decide) (by decide +kernel)) (bL (p := 3148) (v := 141) (by decide) (by decide +kernel)) (by decide), rfl⟩
theorem eL_law_3149 : dc mL_law 3149 (.iload 5) 2 3151 := ⟨d_iload (bL (p := 3149) (v := 21) (by decide) (by decide +kernel)) (bL (p := 3150) (v := 5) (by decide) (by decide +kernel)), rfl⟩
theorem eL_law_3151 : dc mL_law 3151 (.if_icmp .eq 5) 3 3154 := ⟨d_if_icmp_eq (bL (p := 3151) (v := 159) (by decide) (by decide +kernel)) (bL (p := 3152) (v := 0) (by decide) (by decide +kernel)) (bL (p := 3153) (v := 5) (by decide) (by decide +kernel)) (by decide +kernel), rfl⟩
theorem eL_law_3154 : dc mL_law 3154 (.iconst 0) 1 3155 := ⟨d_iconst_0 (bL (p := 3154) (v := 3) (by decide) (by decide +kernel)), rfl⟩
theorem eL_law_3155 : dc mL_law 3155 (.ireturn) 1 3156 := ⟨d_ireturn (bL (p := 3155) (v := 172) (by decide) (by decide +kernel)), rfl⟩
theorem eL_law_3156 : dc mL_law 3156 (.iload 5) 2 3158 := ⟨d_iload (bL (p := 3156) (v := 21) (by decide) (by decide +kernel)) (bL (p := 3157) (v := 5) (by decide) (by decide +kernel)), rfl⟩
theorem eL_law_3158 : dc mL_law 3158 (.ifCond .ne 14) 3 3161 := ⟨d_ifCond_ne (bL (p := 3158) (v := 154) (by decide) (by decide +kernel)) (bL (p := 3159) (v := 0) (by decide) (by decide +kernel)) (bL (p := 3160) (v := 14) (by decide) (by decide +kernel)) (by decide +kernel), rfl⟩
theorem eL_law_3161 : dc mL_law 3161 (.aload_n 3) 1 3162 := ⟨d_aload_3 (bL (p := 3161) (v := 45) (by decide) (by decide +kernel)), rfl⟩
theorem eL_law_3162 : dc mL_law 3162 (.iconst 0) 1 3163 := ⟨d_iconst_0 (bL (p := 3162) (v := 3) (by decide) (by decide +kernel)), rfl⟩
theorem eL_law_3163 : dc mL_law 3163 (.laload) 1 3164 := ⟨d_laload (bL (p := 3163) (v := 47) (by decide) (by decide +kernel)), rfl⟩
theorem eL_law_3164 : dc mL_law 3164 (.lload 6) 2 3166 := ⟨d_lload (bL (p := 3164) (v := 22) (by decide) (by decide +kernel)) (bL (p := 3165) (v := 6) (by decide) (by decide +kernel)), rfl⟩
theorem eL_law_3166 : dc mL_law 3166 (.lcmp) 1 3167 := ⟨d_lcmp (bL (p := 3166) (v := 148) (by decide) (by decide +kernel)), rfl⟩
theorem eL_law_3167 : dc mL_law 3167 (.ifCond .eq 5) 3 3170 := ⟨d_ifCond_eq (bL (p := 3167) (v := 153) (by decide) (by decide +kernel)) (bL (p := 3168) (v := 0) (by decide) (by decide +kernel)) (bL (p := 3169) (v := 5) (by decide) (by decide +kernel)) (by decide +kernel), rfl⟩
theorem eL_law_3170 : dc mL_law 3170 (.iconst 0) 1 3171 := ⟨d_iconst_0 (bL (p := 3170) (v := 3) (by decide) (by decide +kernel)), rfl⟩
theorem eL_law_3171 : dc mL_law 3171 (.ireturn) 1 3172 := ⟨d_ireturn (bL (p := 3171) (v := 172) (by decide) (by decide +kernel)), rfl⟩
theorem eL_law_3172 : dc mL_law 3172 (.goto 180) 3 3175 := ⟨d_goto (bL (p := 3172) (v := 167) (by decide) (by decide +kernel)) (bL (p := 3173) (v := 0) (by decide) (by decide +kernel)) (bL (p := 3174) (v := 180) (by decide) (by decide +kernel)) (by decide +kernel), rfl⟩
theorem eL_law_3175 : dc mL_law 3175 (.aload_n 1) 1 3176 := ⟨d_aload_1 (bL (p := 3175) (v := 43) (by decide) (by decide +kernel)), rfl⟩
theorem eL_law_3176 : dc mL_law 3176 (.aload_n 0) 1 3177 := ⟨d_aload_0 (bL (p := 3176) (v := 42) (by decide) (by decide +kernel)), rfl⟩
theorem eL_law_3177 : dc mL_law 3177 (.iload 4) 2 3179 := ⟨d_iload (bL (p := 3177) (v := 21) (by decide) (by decide +kernel)) (bL (p := 3178) (v := 4) (by decide) (by decide +kernel)), rfl⟩
theorem eL_law_3179 : dc mL_law 3179 (.iconst 1) 1 3180 := ⟨d_iconst_1 (bL (p := 3179) (v := 4) (by decide) (by decide +kernel)), rfl⟩
theorem eL_law_3180 : dc mL_law 3180 (.iadd) 1 3181 := ⟨d_iadd (bL (p := 3180) (v := 96) (by decide) (by decide +kernel)), rfl⟩
theorem eL_law_3181 : dc mL_law 3181 (.iaload) 1 3182 := ⟨d_iaload (bL (p := 3181) (v := 46) (by decide) (by decide +kernel)), rfl⟩
theorem eL_law_3182 : dc mL_law 3182 (.aload_n 0) 1 3183 := ⟨d_aload_0 (bL (p := 3182) (v := 42) (by decide) (by decide +kernel)), rfl⟩
theorem eL_law_3183 : dc mL_law 3183 (.iload 4) 2 3185 := ⟨d_iload (bL (p := 3183) (v := 21) (by decide) (by decide +kernel)) (bL (p := 3184) (v := 4) (by decide) (by decide +kernel)), rfl⟩
theorem eL_law_3185 : dc mL_law 3185 (.iconst 2) 1 3186 := ⟨d_iconst_2 (bL (p := 3185) (v := 5) (by decide) (by decide +kernel)), rfl⟩
theorem eL_law_3186 : dc mL_law 3186 (.iadd) 1 3187 := ⟨d_iadd (bL (p := 3186) (v := 96) (by decide) (by decide +kernel)), rfl⟩
theorem eL_law_3187 : dc mL_law 3187 (.iaload) 1 3188 := ⟨d_iaload (bL (p := 3187) (v := 46) (by decide) (by decide +kernel)), rfl⟩
theorem eL_law_3188 : dc mL_law 3188 (.aload_n 0) 1 3189 := ⟨d_aload_0 (bL (p := 3188) (v := 42) (by decide) (by decide +kernel)), rfl⟩
theorem eL_law_3189 : dc mL_law 3189 (.iload 4) 2 3191 := ⟨d_iload (bL (p := 3189) (v := 21) (by decide) (by decide +kernel)) (bL (p := 3190) (v := 4) (by decide) (by decide +kernel)), rfl⟩
theorem eL_law_3191 : dc mL_law 3191 (.iconst 3) 1 3192 := ⟨d_iconst_3 (bL (p := 3191) (v := 6) (by decide) (by decide +kernel)), rfl⟩
theorem eL_law_3192 : dc mL_law 3192 (.iadd) 1 3193 := ⟨d_iadd (bL (p := 3192) (v := 96) (by decide) (by decide +kernel)), rfl⟩
theorem eL_law_3193 : dc mL_law 3193 (.iaload) 1 3194 := ⟨d_iaload (bL (p := 3193) (v := 46) (by decide) (by decide +kernel)), rfl⟩
theorem eL_law_3194 : dc mL_law 3194 (.aload_n 3) 1 3195 := ⟨d_aload_3 (bL (p := 3194) (v := 45) (by decide) (by decide +kernel)), rfl⟩
theorem eL_law_3195 : dc mL_law 3195 (.invokestatic 261) 3 3198 := ⟨d_invokestatic (bL (p := 3195) (v := 184) (by decide) (by decide +kernel)) (bL (p := 3196) (v := 1) (by decide) (by decide +kernel)) (bL (p := 3197) (v := 5) (by decide) (by decide +kernel)) (by decide), rfl⟩
theorem eL_law_3198 : dc mL_law 3198 (.istore 5) 2 3200 := ⟨d_istore (bL (p := 3198) (v := 54) (by decide) (by decide +kernel)) (bL (p := 3199) (v := 5) (by decide) (by decide +kernel)), rfl⟩
theorem eL_law_3200 : dc mL_law 3200 (.aload_n 2) 1 3201 := ⟨d_aload_2 (bL (p := 3200) (v := 44) (by decide) (by decide +kernel)), rfl⟩
theorem eL_law_3201 : dc mL_law 3201 (.aload_n 0) 1 3202 := ⟨d_aload_0 (bL (p := 3201) (v := 42) (by decide) (by decide +kernel)), rfl⟩
theorem eL_law_3202 : dc mL_law 3202 (.iload 4) 2 3204 := ⟨d_iload (bL (p := 3202) (v := 21) (by decide) (by decide +kernel)) (bL (p := 3203) (v := 4) (by decide) (by decide +kernel)), rfl⟩
theorem eL_law_3204 : dc mL_law 3204 (.iconst 1) 1 3205 := ⟨d_iconst_1 (bL (p := 3204) (v := 4) (by decide) (by decide +kernel)), rfl⟩
theorem eL_law_3205 : dc mL_law 3205 (.iadd) 1 3206 := ⟨d_iadd (bL (p := 3205) (v := 96) (by decide) (by decide +kernel)), rfl⟩
theorem eL_law_3206 : dc mL_law 3206 (.iaload) 1 3207 := ⟨d_iaload (bL (p := 3206) (v := 46) (by decide) (by decide +kernel)), rfl⟩
theorem eL_law_3207 : dc mL_law 3207 (.aload_n 0) 1 3208 := ⟨d_aload_0 (bL (p := 3207) (v := 42) (by decide) (by decide +kernel)), rfl⟩
theorem eL_law_3208 : dc mL_law 3208 (.iload 4) 2 3210 := ⟨d_iload (bL (p := 3208) (v := 21) (by decide) (by decide +kernel)) (bL (p := 3209) (v := 4) (by decide) (by decide +kernel)), rfl⟩
theorem eL_law_3210 : dc mL_law 3210 (.iconst 2) 1 3211 := ⟨d_iconst_2 (bL (p := 3210) (v := 5) (by decide) (by decide +kernel)), rfl⟩
theorem eL_law_3211 : dc mL_law 3211 (.iadd) 1 3212 := ⟨d_iadd (bL (p := 3211) (v := 96) (by decide) (by decide +kernel)), rfl⟩
theorem eL_law_3212 : dc mL_law 3212 (.iaload) 1 3213 := ⟨d_iaload (bL (p := 3212) (v := 46) (by decide) (by decide +kernel)), rfl⟩
theorem eL_law_3213 : dc mL_law 3213 (.aload_n 0) 1 3214 := ⟨d_aload_0 (bL (p := 3213) (v := 42) (by decide) (by decide +kernel)), rfl⟩
theorem eL_law_3214 : dc mL_law 3214 (.iload 4) 2 3216 := ⟨d_iload (bL (p := 3214) (v := 21) (by decide) (by decide +kernel)) (bL (p := 3215) (v := 4) (by decide) (by decide +kernel)), rfl⟩
theorem eL_law_3216 : dc mL_law 3216 (.iconst 3) 1 3217 := ⟨d_iconst_3 (bL (p := 3216) (v := 6) (by decide) (by decide +kernel)), rfl⟩
theorem eL_law_3217 : dc mL_law 3217 (.iadd) 1 3218 := ⟨d_iadd (bL (p := 3217) (v := 96) (by decide) (by decide +kernel)), rfl⟩
theorem eL_law_3218 : dc mL_law 3218 (.iaload) 1 3219 := ⟨d_iaload (bL (p := 3218) (v := 46) (by decide) (by decide +kernel)), rfl⟩
theorem eL_law_3219 : dc mL_law 3219 (.invokevirtual 263) 3 3222 := ⟨d_invokevirtual (bL (p := 3219) (v := 182) (by decide) (by decide +kernel)) (bL (p := 3220) (v := 1) (by decide) (by decide +kernel)) (bL (p := 3221) (v := 7) (by decide) (by decide +kernel)) (by decide), rfl⟩
theorem eL_law_3222 : dc mL_law 3222 (.istore 6) 2 3224 := ⟨d_istore (bL (p := 3222) (v := 54) (by decide) (by decide +kernel)) (bL (p := 3223) (v := 6) (by decide) (by decide +kernel)), rfl⟩
theorem eL_law_3224 : dc mL_law 3224 (.aload_n 2) 1 3225 := ⟨d_aload_2 (bL (p := 3224) (v := 44) (by decide) (by decide +kernel)), rfl⟩
theorem eL_law_3225 : dc mL_law 3225 (.invokevirtual 141) 3 3228 := ⟨d_invokevirtual (bL (p := 3225) (v := 182) (by decide) (by decide +kernel)) (bL (p := 3226) (v := 0) (by decide) (by decide +kernel)) (bL (p := 3227) (v := 141) (by decide) (by decide +kernel)) (by decide), rfl⟩
theorem eL_law_3228 : dc mL_law 3228 (.iload 5) 2 3230 := ⟨d_iload (bL (p := 3228) (v := 21) (by decide) (by decide +kernel)) (bL (p := 3229) (v := 5) (by decide) (by decide +kernel)), rfl⟩
theorem eL_law_3230 : dc mL_law 3230 (.if_icmp .eq 5) 3 3233 := ⟨d_if_icmp_eq (bL (p := 3230) (v := 159) (by decide) (by decide +kernel)) (bL (p := 3231) (v := 0) (by decide) (by decide +kernel)) (bL (p := 3232) (v := 5) (by decide) (by decide +kernel)) (by decide +kernel), rfl⟩
theorem eL_law_3233 : dc mL_law 3233 (.iconst 0) 1 3234 := ⟨d_iconst_0 (bL (p := 3233) (v := 3) (by decide) (by decide +kernel)), rfl⟩
theorem eL_law_3234 : dc mL_law 3234 (.ireturn) 1 3235 := ⟨d_ireturn (bL (p := 3234) (v := 172) (by decide) (by decide +kernel)), rfl⟩
theorem eL_law_3235 : dc mL_law 3235 (.iload 5) 2 3237 := ⟨d_iload (bL (p := 3235) (v := 21) (by decide) (by decide +kernel)) (bL (p := 3236) (v := 5) (by decide) (by decide +kernel)), rfl⟩
theorem eL_law_3237 : dc mL_law 3237 (.ifCond .ne 15) 3 3240 := ⟨d_ifCond_ne (bL (p := 3237) (v := 154) (by decide) (by decide +kernel)) (bL (p := 3238) (v := 0) (by decide) (by decide +kernel)) (bL (p := 3239) (v := 15) (by decide) (by decide +kernel)) (by decide +kernel), rfl⟩
theorem eL_law_3240 : dc mL_law 3240 (.aload_n 3) 1 3241 := ⟨d_aload_3 (bL (p := 3240) (v := 45) (by decide) (by decide +kernel)), rfl⟩
theorem eL_law_3241 : dc mL_law 3241 (.iconst 0) 1 3242 := ⟨d_iconst_0 (bL (p := 3241) (v := 3) (by decide) (by decide +kernel)), rfl⟩
theorem eL_law_3242 : dc mL_law 3242 (.laload) 1 3243 := ⟨d_laload (bL (p := 3242) (v := 47) (by decide) (by decide +kernel)), rfl⟩
theorem eL_law_3243 : dc mL_law 3243 (.iload 6) 2 3245 := ⟨d_iload (bL (p := 3243) (v := 21) (by decide) (by decide +kernel)) (bL (p := 3244) (v := 6) (by decide) (by decide +kernel)), rfl⟩
theorem eL_law_3245 : dc mL_law 3245 (.i2l) 1 3246 := ⟨d_i2l (bL (p := 3245) (v := 133) (by decide) (by decide +kernel)), rfl⟩
theorem eL_law_3246 : dc mL_law 3246 (.lcmp) 1 3247 := ⟨d_lcmp (bL (p := 3246) (v := 148) (by decide) (by decide +kernel)), rfl⟩
theorem eL_law_3247 : dc mL_law 3247 (.ifCond .eq 5) 3 3250 := ⟨d_ifCond_eq (bL (p := 3247) (v := 153) (by decide) (by decide +kernel)) (bL (p := 3248) (v := 0) (by decide) (by decide +kernel)) (bL (p := 3249) (v := 5) (by decide) (by decide +kernel)) (by decide +kernel), rfl⟩
theorem eL_law_3250 : dc mL_law 3250 (.iconst 0) 1 3251 := ⟨d_iconst_0 (bL (p := 3250) (v := 3) (by decide) (by decide +kernel)), rfl⟩
theorem eL_law_3251 : dc mL_law 3251 (.ireturn) 1 3252 := ⟨d_ireturn (bL (p := 3251) (v := 172) (by decide) (by decide +kernel)), rfl⟩
theorem eL_law_3252 : dc mL_law 3252 (.goto 100) 3 3255 := ⟨d_goto (bL (p := 3252) (v := 167) (by decide) (by decide +kernel)) (bL (p := 3253) (v := 0) (by decide) (by decide +kernel)) (bL (p := 3254) (v := 100) (by decide) (by decide +kernel)) (by decide +kernel), rfl⟩
theorem eL_law_3255 : dc mL_law 3255 (.aload_n 1) 1 3256 := ⟨d_aload_1 (bL (p := 3255) (v := 43) (by decide) (by decide +kernel)), rfl⟩
theorem eL_law_3256 : dc mL_law 3256 (.aload_n 0) 1 3257 := ⟨d_aload_0 (bL (p := 3256) (v := 42) (by decide) (by decide +kernel)), rfl⟩
theorem eL_law_3257 : dc mL_law 3257 (.iload 4) 2 3259 := ⟨d_iload (bL (p := 3257) (v := 21) (by decide) (by decide +kernel)) (bL (p := 3258) (v := 4) (by decide) (by decide +kernel)), rfl⟩
theorem eL_law_3259 : dc mL_law 3259 (.iconst 1) 1 3260 := ⟨d_iconst_1 (bL (p := 3259) (v := 4) (by decide) (by decide +kernel)), rfl⟩
theorem eL_law_3260 : dc mL_law 3260 (.iadd) 1 3261 := ⟨d_iadd (bL (p := 3260) (v := 96) (by decide) (by decide +kernel)), rfl⟩
theorem eL_law_3261 : dc mL_law 3261 (.iaload) 1 3262 := ⟨d_iaload (bL (p := 3261) (v := 46) (by decide) (by decide +kernel)), rfl⟩
theorem eL_law_3262 : dc mL_law 3262 (.invokestatic 264) 3 3265 := ⟨d_invokestatic (bL (p := 3262) (v := 184) (by decide) (by decide +kernel)) (bL (p := 3263) (v := 1) (by decide) (by decide +kernel)) (bL (p := 3264) (v := 8) (by decide) (by decide +kernel)) (by decide), rfl⟩
theorem eL_law_3265 : dc mL_law 3265 (.istore 5) 2 3267 := ⟨d_istore (bL (p := 3265) (v := 54) (by decide) (by decide +kernel)) (bL (p := 3266) (v := 5) (by decide) (by decide +kernel)), rfl⟩
theorem eL_law_3267 : dc mL_law 3267 (.aload_n 2) 1 3268 := ⟨d_aload_2 (bL (p := 3267) (v := 44) (by decide) (by decide +kernel)), rfl⟩
theorem eL_law_3268 : dc mL_law 3268 (.aload_n 0) 1 3269 := ⟨d_aload_0 (bL (p := 3268) (v := 42) (by decide) (by decide +kernel)), rfl⟩
theorem eL_law_3269 : dc mL_law 3269 (.iload 4) 2 3271 := ⟨d_iload (bL (p := 3269) (v := 21) (by decide) (by decide +kernel)) (bL (p := 3270) (v := 4) (by decide) (by decide +kernel)), rfl⟩
theorem eL_law_3271 : dc mL_law 3271 (.iconst 1) 1 3272 := ⟨d_iconst_1 (bL (p := 3271) (v := 4) (by decide) (by decide +kernel)), rfl⟩
theorem eL_law_3272 : dc mL_law 3272 (.iadd) 1 3273 := ⟨d_iadd (bL (p := 3272) (v := 96) (by decide) (by decide +kernel)), rfl⟩
theorem eL_law_3273 : dc mL_law 3273 (.iaload) 1 3274 := ⟨d_iaload (bL (p := 3273) (v := 46) (by decide) (by decide +kernel)), rfl⟩
theorem eL_law_3274 : dc mL_law 3274 (.invokevirtual 267) 3 3277 := ⟨d_invokevirtual (bL (p := 3274) (v := 182) (by decide) (by decide +kernel)) (bL (p := 3275) (v := 1) (by decide) (by decide +kernel)) (bL (p := 3276) (v := 11) (by decide) (by decide +kernel)) (by decide), rfl⟩
theorem eL_law_3277 : dc mL_law 3277 (.aload_n 2) 1 3278 := ⟨d_aload_2 (bL (p := 3277) (v := 44) (by decide) (by decide +kernel)), rfl⟩
theorem eL_law_3278 : dc mL_law 3278 (.invokevirtual 141) 3 3281 := ⟨d_invokevirtual (bL (p := 3278) (v := 182) (by decide) (by decide +kernel)) (bL (p := 3279) (v := 0) (by decide) (by decide +kernel)) (bL (p := 3280) (v := 141) (by decide) (by decide +kernel)) (by decide), rfl⟩
theorem eL_law_3281 : dc mL_law 3281 (.iload 5) 2 3283 := ⟨d_iload (bL (p := 3281) (v := 21) (by decide) (by decide +kernel)) (bL (p := 3282) (v := 5) (by decide) (by decide +kernel)), rfl⟩
theorem eL_law_3283 : dc mL_law 3283 (.if_icmp .eq 5) 3 3286 := ⟨d_if_icmp_eq (bL (p := 3283) (v := 159) (by decide) (by decide +kernel)) (bL (p := 3284) (v := 0) (by decide) (by decide +kernel)) (bL (p := 3285) (v := 5) (by decide) (by decide +kernel)) (by decide +kernel), rfl⟩
theorem eL_law_3286 : dc mL_law 3286 (.iconst 0) 1 3287 := ⟨d_iconst_0 (bL (p := 3286) (v := 3) (by decide) (by decide +kernel)), rfl⟩
theorem eL_law_3287 : dc mL_law 3287 (.ireturn) 1 3288 := ⟨d_ireturn (bL (p := 3287) (v := 172) (by decide) (by decide +kernel)), rfl⟩
theorem eL_law_3288 : dc mL_law 3288 (.goto 64) 3 3291 := ⟨d_goto (bL (p := 3288) (v := 167) (by decide) (by decide +kernel)) (bL (p := 3289) (v := 0) (by decide) (by decide +kernel)) (bL (p := 3290) (v := 64) (by decide) (by decide +kernel)) (by decide +kernel), rfl⟩
theorem eL_law_3291 : dc mL_law 3291 (.aload_n 1) 1 3292 := ⟨d_aload_1 (bL (p := 3291) (v := 43) (by decide) (by decide +kernel)), rfl⟩
theorem eL_law_3292 : dc mL_law 3292 (.aload_n 0) 1 3293 := ⟨d_aload_0 (bL (p := 3292) (v := 42) (by decide) (by decide +kernel)), rfl⟩
theorem eL_law_3293 : dc mL_law 3293 (.iload 4) 2 3295 := ⟨d_iload (bL (p := 3293) (v := 21) (by decide) (by decide +kernel)) (bL (p := 3294) (v := 4) (by decide) (by decide +kernel)), rfl⟩
theorem eL_law_3295 : dc mL_law 3295 (.iconst 1) 1 3296 := ⟨d_iconst_1 (bL (p := 3295) (v := 4) (by decide) (by decide +kernel)), rfl⟩
theorem eL_law_3296 : dc mL_law 3296 (.iadd) 1 3297 := ⟨d_iadd (bL (p := 3296) (v := 96) (by decide) (by decide +kernel)), rfl⟩
theorem eL_law_3297 : dc mL_law 3297 (.iaload) 1 3298 := ⟨d_iaload (bL (p := 3297) (v := 46) (by decide) (by decide +kernel)), rfl⟩
theorem eL_law_3298 : dc mL_law 3298 (.invokestatic 268) 3 3301 := ⟨d_invokestatic (bL (p := 3298) (v := 184) (by decide) (by decide +kernel)) (bL (p := 3299) (v := 1) (by decide) (by decide +kernel)) (bL (p := 3300) (v := 12) (by decide) (by decide +kernel)) (by decide), rfl⟩
theorem eL_law_3301 : dc mL_law 3301 (.istore 5) 2 3303 := ⟨d_istore (bL (p := 3301) (v := 54) (by decide) (by decide +kernel)) (bL (p := 3302) (v := 5) (by decide) (by decide +kernel)), rfl⟩
theorem eL_law_3303 : dc mL_law 3303 (.aload_n 2) 1 3304 := ⟨d_aload_2 (bL (p := 3303) (v := 44) (by decide) (by decide +kernel)), rfl⟩
theorem eL_law_3304 : dc mL_law 3304 (.aload_n 0) 1 3305 := ⟨d_aload_0 (bL (p := 3304) (v := 42) (by decide) (by decide +kernel)), rfl⟩
theorem eL_law_3305 : dc mL_law 3305 (.iload 4) 2 3307 := ⟨d_iload (bL (p := 3305) (v := 21) (by decide) (by decide +kernel)) (bL (p := 3306) (v := 4) (by decide) (by decide +kernel)), rfl⟩
theorem eL_law_3307 : dc mL_law 3307 (.iconst 1) 1 3308 := ⟨d_iconst_1 (bL (p := 3307) (v := 4) (by decide) (by decide +kernel)), rfl⟩
theorem eL_law_3308 : dc mL_law 3308 (.iadd) 1 3309 := ⟨d_iadd (bL (p := 3308) (v := 96) (by decide) (by decide +kernel)), rfl⟩
theorem eL_law_3309 : dc mL_law 3309 (.iaload) 1 3310 := ⟨d_iaload (bL (p := 3309) (v := 46) (by decide) (by decide +kernel)), rfl⟩
theorem eL_law_3310 : dc mL_law 3310 (.invokevirtual 270) 3 3313 := ⟨d_invokevirtual (bL (p := 3310) (v := 182) (by decide) (by decide +kernel)) (bL (p := 3311) (v := 1) (by decide) (by decide +kernel)) (bL (p := 3312) (v := 14) (by decide) (by decide +kernel)) (by decide), rfl⟩
theorem eL_law_3313 : dc mL_law 3313 (.aload_n 2) 1 3314 := ⟨d_aload_2 (bL (p := 3313) (v := 44) (by decide) (by decide +kernel)), rfl⟩
theorem eL_law_3314 : dc mL_law 3314 (.invokevirtual 141) 3 3317 := ⟨d_invokevirtual (bL (p := 3314) (v := 182) (by decide) (by decide +kernel)) (bL (p := 3315) (v := 0) (by decide) (by decide +kernel)) (bL (p := 3316) (v := 141) (by decide) (by decide +kernel)) (by decide), rfl⟩
theorem eL_law_3317 : dc mL_law 3317 (.iload 5) 2 3319 := ⟨d_iload (bL (p := 3317) (v := 21) (by decide) (by decide +kernel)) (bL (p := 3318) (v := 5) (by decide) (by decide +kernel)), rfl⟩
theorem eL_law_3319 : dc mL_law 3319 (.if_icmp .eq 5) 3 3322 := ⟨d_if_icmp_eq (bL (p := 3319) (v := 159) (by decide) (by decide +kernel)) (bL (p := 3320) (v := 0) (by decide) (by decide +kernel)) (bL (p := 3321) (v := 5) (by decide) (by decide +kernel)) (by decide +kernel), rfl⟩
theorem eL_law_3322 : dc mL_law 3322 (.iconst 0) 1 3323 := ⟨d_iconst_0 (bL (p := 3322) (v := 3) (by decide) (by decide +kernel)), rfl⟩
theorem eL_law_3323 : dc mL_law 3323 (.ireturn) 1 3324 := ⟨d_ireturn (bL (p := 3323) (v := 172) (by decide) (by decide +kernel)), rfl⟩
theorem eL_law_3324 : dc mL_law 3324 (.goto 28) 3 3327 := ⟨d_goto (bL (p := 3324) (v := 167) (by decide) (by decide +kernel)) (bL (p := 3325) (v := 0) (by decide) (by decide +kernel)) (bL (p := 3326) (v := 28) (by decide) (by decide +kernel)) (by decide +kernel), rfl⟩
theorem eL_law_3327 : dc mL_law 3327 (.aload_n 1) 1 3328 := ⟨d_aload_1 (bL (p := 3327) (v := 43) (by decide) (by decide +kernel)), rfl⟩
theorem eL_law_3328 : dc mL_law 3328 (.aload_n 0) 1 3329 := ⟨d_aload_0 (bL (p := 3328) (v := 42) (by decide) (by decide +kernel)), rfl⟩
theorem eL_law_3329 : dc mL_law 3329 (.iload 4) 2 3331 := ⟨d_iload (bL (p := 3329) (v := 21) (by decide) (by decide +kernel)) (bL (p := 3330) (v := 4) (by decide) (by decide +kernel)), rfl⟩
theorem eL_law_3331 : dc mL_law 3331 (.iconst 1) 1 3332 := ⟨d_iconst_1 (bL (p := 3331) (v := 4) (by decide) (by decide +kernel)), rfl⟩
theorem eL_law_3332 : dc mL_law 3332 (.iadd) 1 3333 := ⟨d_iadd (bL (p := 3332) (v := 96) (by decide) (by decide +kernel)), rfl⟩
theorem eL_law_3333 : dc mL_law 3333 (.iaload) 1 3334 := ⟨d_iaload (bL (p := 3333) (v := 46) (by decide) (by decide +kernel)), rfl⟩
theorem eL_law_3334 : dc mL_law 3334 (.invokevirtual 271) 3 3337 := ⟨d_invokevirtual (bL (p := 3334) (v := 182) (by decide) (by decide +kernel)) (bL (p := 3335) (v := 1) (by decide) (by decide +kernel)) (bL (p := 3336) (v := 15) (by decide) (by decide +kernel)) (by decide), rfl⟩
theorem eL_law_3337 : dc mL_law 3337 (.aload_n 2) 1 3338 := ⟨d_aload_2 (bL (p := 3337) (v := 44) (by decide) (by decide +kernel)), rfl⟩
theorem eL_law_3338 : dc mL_law 3338 (.aload_n 0) 1 3339 := ⟨d_aload_0 (bL (p := 3338) (v := 42) (by decide) (by decide +kernel)), rfl⟩
theorem eL_law_3339 : dc mL_law 3339 (.iload 4) 2 3341 := ⟨d_iload (bL (p := 3339) (v := 21) (by decide) (by decide +kernel)) (bL (p := 3340) (v := 4) (by decide) (by decide +kernel)), rfl⟩
theorem eL_law_3341 : dc mL_law 3341 (.iconst 1) 1 3342 := ⟨d_iconst_1 (bL (p := 3341) (v := 4) (by decide) (by decide +kernel)), rfl⟩
theorem eL_law_3342 : dc mL_law 3342 (.iadd) 1 3343 := ⟨d_iadd (bL (p := 3342) (v := 96) (by decide) (by decide +kernel)), rfl⟩
theorem eL_law_3343 : dc mL_law 3343 (.iaload) 1 3344 := ⟨d_iaload (bL (p := 3343) (v := 46) (by decide) (by decide +kernel)), rfl⟩
theorem eL_law_3344 : dc mL_law 3344 (.invokevirtual 274) 3 3347 := ⟨d_invokevirtual (bL (p := 3344) (v := 182) (by decide) (by decide +kernel)) (bL (p := 3345) (v := 1) (by decide) (by decide +kernel)) (bL (p := 3346) (v := 18) (by decide) (by decide +kernel)) (by decide), rfl⟩
theorem eL_law_3347 : dc mL_law 3347 (.if_icmp .eq 5) 3 3350 := ⟨d_if_icmp_eq (bL (p := 3347) (v := 159) (by decide) (by decide +kernel)) (bL (p := 3348) (v := 0) (by decide) (by decide +kernel)) (bL (p := 3349) (v := 5) (by decide) (by decide +kernel)) (by decide +kernel), rfl⟩
theorem eL_law_3350 : dc mL_law 3350 (.iconst 0) 1 3351 := ⟨d_iconst_0 (bL (p := 3350) (v := 3) (by decide) (by decide +kernel)), rfl⟩
theorem eL_law_3351 : dc mL_law 3351 (.ireturn) 1 3352 := ⟨d_ireturn (bL (p := 3351) (v := 172) (by decide) (by decide +kernel)), rfl⟩
theorem eL_law_3352 : dc mL_law 3352 (.iinc 4 8) 3 3355 := ⟨d_iinc (bL (p := 3352) (v := 132) (by decide) (by decide +kernel)) (bL (p := 3353) (v := 4) (by decide) (by decide +kernel)) (bL (p := 3354) (v := 8) (by decide) (by decide +kernel)) (by decide +kernel), rfl⟩
theorem eL_law_3355 : dc mL_law 3355 (.goto (-3332)) 3 3358 := ⟨d_goto (bL (p := 3355) (v := 167) (by decide) (by decide +kernel)) (bL (p := 3356) (v := 242) (by decide) (by decide +kernel)) (bL (p := 3357) (v := 252) (by decide) (by decide +kernel)) (by decide +kernel), rfl⟩
theorem eL_law_3358 : dc mL_law 3358 (.iconst 1) 1 3359 := ⟨d_iconst_1 (bL (p := 3358) (v := 4) (by decide) (by decide +kernel)), rfl⟩
theorem eL_law_3359 : dc mL_law 3359 (.ireturn) 1 3360 := ⟨d_ireturn (bL (p := 3359) (v := 172) (by decide) (by decide +kernel)), rfl⟩
