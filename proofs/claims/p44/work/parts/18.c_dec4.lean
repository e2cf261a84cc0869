/-! the law, decoded -/
theorem dL_law_2666 : decode cL_law 2666 = .ok (.iload 18, 2) := by decide +kernel
theorem dL_law_2668 : decode cL_law 2668 = .ok (.iload 12, 2) := by decide +kernel
theorem dL_law_2670 : decode cL_law 2670 = .ok (.invokevirtual 274, 3) := by decide +kernel
theorem dL_law_2673 : decode cL_law 2673 = .ok (.if_icmp .ne 77, 3) := by decide +kernel
theorem dL_law_2676 : decode cL_law 2676 = .ok (.aload_n 3, 1) := by decide +kernel
theorem dL_law_2677 : decode cL_law 2677 = .ok (.iload 12, 2) := by decide +kernel
theorem dL_law_2679 : decode cL_law 2679 = .ok (.iconst 1, 1) := by decide +kernel
theorem dL_law_2680 : decode cL_law 2680 = .ok (.invokevirtual 118, 3) := by decide +kernel
theorem dL_law_2683 : decode cL_law 2683 = .ok (.aload_n 3, 1) := by decide +kernel
theorem dL_law_2684 : decode cL_law 2684 = .ok (.iload 12, 2) := by decide +kernel
theorem dL_law_2686 : decode cL_law 2686 = .ok (.iload 18, 2) := by decide +kernel
theorem dL_law_2688 : decode cL_law 2688 = .ok (.invokevirtual 229, 3) := by decide +kernel
theorem dL_law_2691 : decode cL_law 2691 = .ok (.isub, 1) := by decide +kernel
theorem dL_law_2692 : decode cL_law 2692 = .ok (.aload_n 3, 1) := by decide +kernel
theorem dL_law_2693 : decode cL_law 2693 = .ok (.iload 18, 2) := by decide +kernel
theorem dL_law_2695 : decode cL_law 2695 = .ok (.iconst 1, 1) := by decide +kernel
theorem dL_law_2696 : decode cL_law 2696 = .ok (.invokevirtual 118, 3) := by decide +kernel
theorem dL_law_2699 : decode cL_law 2699 = .ok (.aload_n 3, 1) := by decide +kernel
theorem dL_law_2700 : decode cL_law 2700 = .ok (.iload 18, 2) := by decide +kernel
theorem dL_law_2702 : decode cL_law 2702 = .ok (.iload 12, 2) := by decide +kernel
theorem dL_law_2704 : decode cL_law 2704 = .ok (.invokevirtual 229, 3) := by decide +kernel
theorem dL_law_2707 : decode cL_law 2707 = .ok (.isub, 1) := by decide +kernel
theorem dL_law_2708 : decode cL_law 2708 = .ok (.if_icmp .ne 42, 3) := by decide +kernel
theorem dL_law_2711 : decode cL_law 2711 = .ok (.aload_n 3, 1) := by decide +kernel
theorem dL_law_2712 : decode cL_law 2712 = .ok (.iload 12, 2) := by decide +kernel
theorem dL_law_2714 : decode cL_law 2714 = .ok (.iload 18, 2) := by decide +kernel
theorem dL_law_2716 : decode cL_law 2716 = .ok (.invokevirtual 274, 3) := by decide +kernel
theorem dL_law_2719 : decode cL_law 2719 = .ok (.ifCond .eq 27, 3) := by decide +kernel
theorem dL_law_2722 : decode cL_law 2722 = .ok (.aload_n 3, 1) := by decide +kernel
theorem dL_law_2723 : decode cL_law 2723 = .ok (.iload 12, 2) := by decide +kernel
theorem dL_law_2725 : decode cL_law 2725 = .ok (.iload 18, 2) := by decide +kernel
theorem dL_law_2727 : decode cL_law 2727 = .ok (.invokevirtual 277, 3) := by decide +kernel
theorem dL_law_2730 : decode cL_law 2730 = .ok (.ifCond .ne 20, 3) := by decide +kernel
theorem dL_law_2733 : decode cL_law 2733 = .ok (.aload_n 3, 1) := by decide +kernel
theorem dL_law_2734 : decode cL_law 2734 = .ok (.iload 12, 2) := by decide +kernel
theorem dL_law_2736 : decode cL_law 2736 = .ok (.iload 18, 2) := by decide +kernel
theorem dL_law_2738 : decode cL_law 2738 = .ok (.invokevirtual 232, 3) := by decide +kernel
theorem dL_law_2741 : decode cL_law 2741 = .ok (.iload 13, 2) := by decide +kernel
theorem dL_law_2743 : decode cL_law 2743 = .ok (.if_icmp .ne 7, 3) := by decide +kernel
theorem dL_law_2746 : decode cL_law 2746 = .ok (.iconst 1, 1) := by decide +kernel
theorem dL_law_2747 : decode cL_law 2747 = .ok (.goto 4, 3) := by decide +kernel
theorem dL_law_2750 : decode cL_law 2750 = .ok (.iconst 0, 1) := by decide +kernel
theorem dL_law_2751 : decode cL_law 2751 = .ok (.istore 5, 2) := by decide +kernel
theorem dL_law_2753 : decode cL_law 2753 = .ok (.iinc 18 1, 3) := by decide +kernel
theorem dL_law_2756 : decode cL_law 2756 = .ok (.goto (-149), 3) := by decide +kernel
theorem dL_law_2759 : decode cL_law 2759 = .ok (.iinc 12 1, 3) := by decide +kernel
theorem dL_law_2762 : decode cL_law 2762 = .ok (.goto (-777), 3) := by decide +kernel
theorem dL_law_2765 : decode cL_law 2765 = .ok (.aload_n 3, 1) := by decide +kernel
theorem dL_law_2766 : decode cL_law 2766 = .ok (.iconst 0, 1) := by decide +kernel
theorem dL_law_2767 : decode cL_law 2767 = .ok (.invokevirtual 286, 3) := by decide +kernel
theorem dL_law_2770 : decode cL_law 2770 = .ok (.istore 12, 2) := by decide +kernel
theorem dL_law_2772 : decode cL_law 2772 = .ok (.aload_n 3, 1) := by decide +kernel
theorem dL_law_2773 : decode cL_law 2773 = .ok (.iconst 1, 1) := by decide +kernel
theorem dL_law_2774 : decode cL_law 2774 = .ok (.invokevirtual 286, 3) := by decide +kernel
theorem dL_law_2777 : decode cL_law 2777 = .ok (.istore 13, 2) := by decide +kernel
theorem dL_law_2779 : decode cL_law 2779 = .ok (.aload_n 3, 1) := by decide +kernel
theorem dL_law_2780 : decode cL_law 2780 = .ok (.iconst 2, 1) := by decide +kernel
theorem dL_law_2781 : decode cL_law 2781 = .ok (.invokevirtual 286, 3) := by decide +kernel
theorem dL_law_2784 : decode cL_law 2784 = .ok (.istore 14, 2) := by decide +kernel
theorem dL_law_2786 : decode cL_law 2786 = .ok (.iload 5, 2) := by decide +kernel
theorem dL_law_2788 : decode cL_law 2788 = .ok (.ifCond .eq 71, 3) := by decide +kernel
theorem dL_law_2791 : decode cL_law 2791 = .ok (.iload 12, 2) := by decide +kernel
theorem dL_law_2793 : decode cL_law 2793 = .ok (.iload 13, 2) := by decide +kernel
theorem dL_law_2795 : decode cL_law 2795 = .ok (.invokestatic 289, 3) := by decide +kernel
theorem dL_law_2798 : decode cL_law 2798 = .ok (.iload 14, 2) := by decide +kernel
theorem dL_law_2800 : decode cL_law 2800 = .ok (.invokestatic 289, 3) := by decide +kernel
theorem dL_law_2803 : decode cL_law 2803 = .ok (.iadd, 1) := by decide +kernel
theorem dL_law_2804 : decode cL_law 2804 = .ok (.if_icmp .ne 55, 3) := by decide +kernel
theorem dL_law_2807 : decode cL_law 2807 = .ok (.iload 13, 2) := by decide +kernel
theorem dL_law_2809 : decode cL_law 2809 = .ok (.iload 11, 2) := by decide +kernel
theorem dL_law_2811 : decode cL_law 2811 = .ok (.ishr, 1) := by decide +kernel
theorem dL_law_2812 : decode cL_law 2812 = .ok (.iconst 1, 1) := by decide +kernel
theorem dL_law_2813 : decode cL_law 2813 = .ok (.iand, 1) := by decide +kernel
theorem dL_law_2814 : decode cL_law 2814 = .ok (.ifCond .ne 45, 3) := by decide +kernel
theorem dL_law_2817 : decode cL_law 2817 = .ok (.iload 14, 2) := by decide +kernel
theorem dL_law_2819 : decode cL_law 2819 = .ok (.iload 11, 2) := by decide +kernel
theorem dL_law_2821 : decode cL_law 2821 = .ok (.ishr, 1) := by decide +kernel
theorem dL_law_2822 : decode cL_law 2822 = .ok (.iconst 1, 1) := by decide +kernel
theorem dL_law_2823 : decode cL_law 2823 = .ok (.iand, 1) := by decide +kernel
theorem dL_law_2824 : decode cL_law 2824 = .ok (.ifCond .ne 35, 3) := by decide +kernel
theorem dL_law_2827 : decode cL_law 2827 = .ok (.iload 12, 2) := by decide +kernel
theorem dL_law_2829 : decode cL_law 2829 = .ok (.ifCond .ne 7, 3) := by decide +kernel
theorem dL_law_2832 : decode cL_law 2832 = .ok (.iconst 1, 1) := by decide +kernel
theorem dL_law_2833 : decode cL_law 2833 = .ok (.goto 4, 3) := by decide +kernel
theorem dL_law_2836 : decode cL_law 2836 = .ok (.iconst 0, 1) := by decide +kernel
theorem dL_law_2837 : decode cL_law 2837 = .ok (.aload_n 3, 1) := by decide +kernel
theorem dL_law_2838 : decode cL_law 2838 = .ok (.bipush 10, 2) := by decide +kernel
theorem dL_law_2840 : decode cL_law 2840 = .ok (.invokevirtual 137, 3) := by decide +kernel
theorem dL_law_2843 : decode cL_law 2843 = .ok (.iconst 1, 1) := by decide +kernel
theorem dL_law_2844 : decode cL_law 2844 = .ok (.if_icmp .ne 7, 3) := by decide +kernel
theorem dL_law_2847 : decode cL_law 2847 = .ok (.iconst 1, 1) := by decide +kernel
theorem dL_law_2848 : decode cL_law 2848 = .ok (.goto 4, 3) := by decide +kernel
theorem dL_law_2851 : decode cL_law 2851 = .ok (.iconst 0, 1) := by decide +kernel
theorem dL_law_2852 : decode cL_law 2852 = .ok (.if_icmp .ne 7, 3) := by decide +kernel
theorem dL_law_2855 : decode cL_law 2855 = .ok (.iconst 1, 1) := by decide +kernel
theorem dL_law_2856 : decode cL_law 2856 = .ok (.goto 4, 3) := by decide +kernel
theorem dL_law_2859 : decode cL_law 2859 = .ok (.iconst 0, 1) := by decide +kernel
theorem dL_law_2860 : decode cL_law 2860 = .ok (.istore 5, 2) := by decide +kernel
theorem dL_law_2862 : decode cL_law 2862 = .ok (.iconst 0, 1) := by decide +kernel
theorem dL_law_2863 : decode cL_law 2863 = .ok (.istore 15, 2) := by decide +kernel
theorem dL_law_2865 : decode cL_law 2865 = .ok (.iconst 0, 1) := by decide +kernel
theorem dL_law_2866 : decode cL_law 2866 = .ok (.istore 16, 2) := by decide +kernel
theorem dL_law_2868 : decode cL_law 2868 = .ok (.iload 16, 2) := by decide +kernel
theorem dL_law_2870 : decode cL_law 2870 = .ok (.iload 6, 2) := by decide +kernel
theorem dL_law_2872 : decode cL_law 2872 = .ok (.if_icmp .ge 34, 3) := by decide +kernel
theorem dL_law_2875 : decode cL_law 2875 = .ok (.iload 13, 2) := by decide +kernel
theorem dL_law_2877 : decode cL_law 2877 = .ok (.iload 16, 2) := by decide +kernel
theorem dL_law_2879 : decode cL_law 2879 = .ok (.ishr, 1) := by decide +kernel
theorem dL_law_2880 : decode cL_law 2880 = .ok (.iconst 1, 1) := by decide +kernel
theorem dL_law_2881 : decode cL_law 2881 = .ok (.iand, 1) := by decide +kernel
theorem dL_law_2882 : decode cL_law 2882 = .ok (.iconst 1, 1) := by decide +kernel
theorem dL_law_2883 : decode cL_law 2883 = .ok (.if_icmp .ne 17, 3) := by decide +kernel
theorem dL_law_2886 : decode cL_law 2886 = .ok (.aload_n 3, 1) := by decide +kernel
theorem dL_law_2887 : decode cL_law 2887 = .ok (.iload 16, 2) := by decide +kernel
theorem dL_law_2889 : decode cL_law 2889 = .ok (.iload 11, 2) := by decide +kernel
theorem dL_law_2891 : decode cL_law 2891 = .ok (.invokevirtual 235, 3) := by decide +kernel
theorem dL_law_2894 : decode cL_law 2894 = .ok (.ifCond .lt 6, 3) := by decide +kernel
theorem dL_law_2897 : decode cL_law 2897 = .ok (.iinc 15 1, 3) := by decide +kernel
theorem dL_law_2900 : decode cL_law 2900 = .ok (.iinc 16 1, 3) := by decide +kernel
theorem dL_law_2903 : decode cL_law 2903 = .ok (.goto (-35), 3) := by decide +kernel
theorem dL_law_2906 : decode cL_law 2906 = .ok (.iload 5, 2) := by decide +kernel
theorem dL_law_2908 : decode cL_law 2908 = .ok (.ifCond .eq 19, 3) := by decide +kernel
theorem dL_law_2911 : decode cL_law 2911 = .ok (.aload_n 3, 1) := by decide +kernel
theorem dL_law_2912 : decode cL_law 2912 = .ok (.iload 11, 2) := by decide +kernel
theorem dL_law_2914 : decode cL_law 2914 = .ok (.iconst 1, 1) := by decide +kernel
theorem dL_law_2915 : decode cL_law 2915 = .ok (.invokevirtual 118, 3) := by decide +kernel
theorem dL_law_2918 : decode cL_law 2918 = .ok (.iload 8, 2) := by decide +kernel
theorem dL_law_2920 : decode cL_law 2920 = .ok (.if_icmp .ne 7, 3) := by decide +kernel
theorem dL_law_2923 : decode cL_law 2923 = .ok (.iconst 1, 1) := by decide +kernel
theorem dL_law_2924 : decode cL_law 2924 = .ok (.goto 4, 3) := by decide +kernel
theorem dL_law_2927 : decode cL_law 2927 = .ok (.iconst 0, 1) := by decide +kernel
theorem dL_law_2928 : decode cL_law 2928 = .ok (.istore 5, 2) := by decide +kernel
theorem dL_law_2930 : decode cL_law 2930 = .ok (.iconst 0, 1) := by decide +kernel
theorem dL_law_2931 : decode cL_law 2931 = .ok (.istore 16, 2) := by decide +kernel
theorem dL_law_2933 : decode cL_law 2933 = .ok (.iload 16, 2) := by decide +kernel
theorem dL_law_2935 : decode cL_law 2935 = .ok (.iload 6, 2) := by decide +kernel
theorem dL_law_2937 : decode cL_law 2937 = .ok (.if_icmp .ge 34, 3) := by decide +kernel
theorem dL_law_2940 : decode cL_law 2940 = .ok (.iload 14, 2) := by decide +kernel
theorem dL_law_2942 : decode cL_law 2942 = .ok (.iload 16, 2) := by decide +kernel
theorem dL_law_2944 : decode cL_law 2944 = .ok (.ishr, 1) := by decide +kernel
theorem dL_law_2945 : decode cL_law 2945 = .ok (.iconst 1, 1) := by decide +kernel
theorem dL_law_2946 : decode cL_law 2946 = .ok (.iand, 1) := by decide +kernel
theorem dL_law_2947 : decode cL_law 2947 = .ok (.iconst 1, 1) := by decide +kernel
theorem dL_law_2948 : decode cL_law 2948 = .ok (.if_icmp .ne 17, 3) := by decide +kernel
theorem dL_law_2951 : decode cL_law 2951 = .ok (.aload_n 3, 1) := by decide +kernel
theorem dL_law_2952 : decode cL_law 2952 = .ok (.iload 11, 2) := by decide +kernel
theorem dL_law_2954 : decode cL_law 2954 = .ok (.iload 16, 2) := by decide +kernel
theorem dL_law_2956 : decode cL_law 2956 = .ok (.invokevirtual 235, 3) := by decide +kernel
theorem dL_law_2959 : decode cL_law 2959 = .ok (.ifCond .lt 6, 3) := by decide +kernel
theorem dL_law_2962 : decode cL_law 2962 = .ok (.iinc 15 1, 3) := by decide +kernel
theorem dL_law_2965 : decode cL_law 2965 = .ok (.iinc 16 1, 3) := by decide +kernel
theorem dL_law_2968 : decode cL_law 2968 = .ok (.goto (-35), 3) := by decide +kernel
theorem dL_law_2971 : decode cL_law 2971 = .ok (.iload 5, 2) := by decide +kernel
theorem dL_law_2973 : decode cL_law 2973 = .ok (.ifCond .eq 51, 3) := by decide +kernel
theorem dL_law_2976 : decode cL_law 2976 = .ok (.iload 15, 2) := by decide +kernel
theorem dL_law_2978 : decode cL_law 2978 = .ok (.iload 12, 2) := by decide +kernel
theorem dL_law_2980 : decode cL_law 2980 = .ok (.if_icmp .ne 44, 3) := by decide +kernel
theorem dL_law_2983 : decode cL_law 2983 = .ok (.aload_n 3, 1) := by decide +kernel
theorem dL_law_2984 : decode cL_law 2984 = .ok (.bipush 10, 2) := by decide +kernel
theorem dL_law_2986 : decode cL_law 2986 = .ok (.invokevirtual 137, 3) := by decide +kernel
theorem dL_law_2989 : decode cL_law 2989 = .ok (.iconst 1, 1) := by decide +kernel
theorem dL_law_2990 : decode cL_law 2990 = .ok (.if_icmp .ne 34, 3) := by decide +kernel
theorem dL_law_2993 : decode cL_law 2993 = .ok (.aload_n 3, 1) := by decide +kernel
theorem dL_law_2994 : decode cL_law 2994 = .ok (.bipush 15, 2) := by decide +kernel
theorem dL_law_2996 : decode cL_law 2996 = .ok (.invokevirtual 137, 3) := by decide +kernel
theorem dL_law_2999 : decode cL_law 2999 = .ok (.iload 8, 2) := by decide +kernel
theorem dL_law_3001 : decode cL_law 3001 = .ok (.if_icmp .ne 23, 3) := by decide +kernel
theorem dL_law_3004 : decode cL_law 3004 = .ok (.aload_n 3, 1) := by decide +kernel
theorem dL_law_3005 : decode cL_law 3005 = .ok (.iconst 0, 1) := by decide +kernel
theorem dL_law_3006 : decode cL_law 3006 = .ok (.invokevirtual 286, 3) := by decide +kernel
theorem dL_law_3009 : decode cL_law 3009 = .ok (.ifCond .ne 15, 3) := by decide +kernel
theorem dL_law_3012 : decode cL_law 3012 = .ok (.aload_n 3, 1) := by decide +kernel
theorem dL_law_3013 : decode cL_law 3013 = .ok (.iconst 0, 1) := by decide +kernel
theorem dL_law_3014 : decode cL_law 3014 = .ok (.invokevirtual 294, 3) := by decide +kernel
theorem dL_law_3017 : decode cL_law 3017 = .ok (.ifCond .eq 7, 3) := by decide +kernel
theorem dL_law_3020 : decode cL_law 3020 = .ok (.iconst 1, 1) := by decide +kernel
theorem dL_law_3021 : decode cL_law 3021 = .ok (.goto 4, 3) := by decide +kernel
theorem dL_law_3024 : decode cL_law 3024 = .ok (.iconst 0, 1) := by decide +kernel
theorem dL_law_3025 : decode cL_law 3025 = .ok (.istore 5, 2) := by decide +kernel
theorem dL_law_3027 : decode cL_law 3027 = .ok (.aload_n 3, 1) := by decide +kernel
theorem dL_law_3028 : decode cL_law 3028 = .ok (.invokevirtual 297, 3) := by decide +kernel
theorem dL_law_3031 : decode cL_law 3031 = .ok (.istore 16, 2) := by decide +kernel
theorem dL_law_3033 : decode cL_law 3033 = .ok (.iload 5, 2) := by decide +kernel
theorem dL_law_3035 : decode cL_law 3035 = .ok (.ifCond .eq 42, 3) := by decide +kernel
theorem dL_law_3038 : decode cL_law 3038 = .ok (.iload 16, 2) := by decide +kernel
theorem dL_law_3040 : decode cL_law 3040 = .ok (.ifCond .ne 7, 3) := by decide +kernel
theorem dL_law_3043 : decode cL_law 3043 = .ok (.iconst 1, 1) := by decide +kernel
theorem dL_law_3044 : decode cL_law 3044 = .ok (.goto 4, 3) := by decide +kernel
theorem dL_law_3047 : decode cL_law 3047 = .ok (.iconst 0, 1) := by decide +kernel
theorem dL_law_3048 : decode cL_law 3048 = .ok (.aload_n 3, 1) := by decide +kernel
theorem dL_law_3049 : decode cL_law 3049 = .ok (.bipush 10, 2) := by decide +kernel
theorem dL_law_3051 : decode cL_law 3051 = .ok (.invokevirtual 137, 3) := by decide +kernel
theorem dL_law_3054 : decode cL_law 3054 = .ok (.iconst 1, 1) := by decide +kernel
theorem dL_law_3055 : decode cL_law 3055 = .ok (.if_icmp .ne 14, 3) := by decide +kernel
theorem dL_law_3058 : decode cL_law 3058 = .ok (.iload 9, 2) := by decide +kernel
theorem dL_law_3060 : decode cL_law 3060 = .ok (.iload 8, 2) := by decide +kernel
theorem dL_law_3062 : decode cL_law 3062 = .ok (.if_icmp .ne 7, 3) := by decide +kernel
theorem dL_law_3065 : decode cL_law 3065 = .ok (.iconst 1, 1) := by decide +kernel
theorem dL_law_3066 : decode cL_law 3066 = .ok (.goto 4, 3) := by decide +kernel
theorem dL_law_3069 : decode cL_law 3069 = .ok (.iconst 0, 1) := by decide +kernel
theorem dL_law_3070 : decode cL_law 3070 = .ok (.if_icmp .ne 7, 3) := by decide +kernel
theorem dL_law_3073 : decode cL_law 3073 = .ok (.iconst 1, 1) := by decide +kernel
theorem dL_law_3074 : decode cL_law 3074 = .ok (.goto 4, 3) := by decide +kernel
theorem dL_law_3077 : decode cL_law 3077 = .ok (.iconst 0, 1) := by decide +kernel
theorem dL_law_3078 : decode cL_law 3078 = .ok (.istore 5, 2) := by decide +kernel
theorem dL_law_3080 : decode cL_law 3080 = .ok (.iload 16, 2) := by decide +kernel
theorem dL_law_3082 : decode cL_law 3082 = .ok (.ifCond .le 81, 3) := by decide +kernel
theorem dL_law_3085 : decode cL_law 3085 = .ok (.iload 5, 2) := by decide +kernel
theorem dL_law_3087 : decode cL_law 3087 = .ok (.ifCond .eq 73, 3) := by decide +kernel
theorem dL_law_3090 : decode cL_law 3090 = .ok (.aload_n 3, 1) := by decide +kernel
theorem dL_law_3091 : decode cL_law 3091 = .ok (.iload 16, 2) := by decide +kernel
theorem dL_law_3093 : decode cL_law 3093 = .ok (.iconst 1, 1) := by decide +kernel
theorem dL_law_3094 : decode cL_law 3094 = .ok (.isub, 1) := by decide +kernel
theorem dL_law_3095 : decode cL_law 3095 = .ok (.invokevirtual 247, 3) := by decide +kernel
theorem dL_law_3098 : decode cL_law 3098 = .ok (.ifCond .lt 62, 3) := by decide +kernel
theorem dL_law_3101 : decode cL_law 3101 = .ok (.aload_n 3, 1) := by decide +kernel
theorem dL_law_3102 : decode cL_law 3102 = .ok (.bipush 10, 2) := by decide +kernel
theorem dL_law_3104 : decode cL_law 3104 = .ok (.invokevirtual 137, 3) := by decide +kernel
theorem dL_law_3107 : decode cL_law 3107 = .ok (.ifCond .eq 13, 3) := by decide +kernel
theorem dL_law_3110 : decode cL_law 3110 = .ok (.aload_n 3, 1) := by decide +kernel
theorem dL_law_3111 : decode cL_law 3111 = .ok (.iconst 4, 1) := by decide +kernel
theorem dL_law_3112 : decode cL_law 3112 = .ok (.invokevirtual 137, 3) := by decide +kernel
theorem dL_law_3115 : decode cL_law 3115 = .ok (.iload 8, 2) := by decide +kernel
theorem dL_law_3117 : decode cL_law 3117 = .ok (.if_icmp .ge 43, 3) := by decide +kernel
theorem dL_law_3120 : decode cL_law 3120 = .ok (.aload_n 3, 1) := by decide +kernel
theorem dL_law_3121 : decode cL_law 3121 = .ok (.iconst 1, 1) := by decide +kernel
theorem dL_law_3122 : decode cL_law 3122 = .ok (.invokevirtual 247, 3) := by decide +kernel
theorem dL_law_3125 : decode cL_law 3125 = .ok (.ifCond .le 35, 3) := by decide +kernel
theorem dL_law_3128 : decode cL_law 3128 = .ok (.aload_n 3, 1) := by decide +kernel
theorem dL_law_3129 : decode cL_law 3129 = .ok (.bipush 10, 2) := by decide +kernel
theorem dL_law_3131 : decode cL_law 3131 = .ok (.invokevirtual 137, 3) := by decide +kernel
theorem dL_law_3134 : decode cL_law 3134 = .ok (.iconst 1, 1) := by decide +kernel
theorem dL_law_3135 : decode cL_law 3135 = .ok (.if_icmp .ne 25, 3) := by decide +kernel
theorem dL_law_3138 : decode cL_law 3138 = .ok (.aload_n 3, 1) := by decide +kernel
theorem dL_law_3139 : decode cL_law 3139 = .ok (.iconst 4, 1) := by decide +kernel
theorem dL_law_3140 : decode cL_law 3140 = .ok (.invokevirtual 137, 3) := by decide +kernel
theorem dL_law_3143 : decode cL_law 3143 = .ok (.iload 8, 2) := by decide +kernel
theorem dL_law_3145 : decode cL_law 3145 = .ok (.if_icmp .ne 15, 3) := by decide +kernel
theorem dL_law_3148 : decode cL_law 3148 = .ok (.aload_n 3, 1) := by decide +kernel
theorem dL_law_3149 : decode cL_law 3149 = .ok (.iconst 0, 1) := by decide +kernel
theorem dL_law_3150 : decode cL_law 3150 = .ok (.invokevirtual 294, 3) := by decide +kernel
theorem dL_law_3153 : decode cL_law 3153 = .ok (.ifCond .eq 7, 3) := by decide +kernel
theorem dL_law_3156 : decode cL_law 3156 = .ok (.iconst 1, 1) := by decide +kernel
theorem dL_law_3157 : decode cL_law 3157 = .ok (.goto 4, 3) := by decide +kernel
theorem dL_law_3160 : decode cL_law 3160 = .ok (.iconst 0, 1) := by decide +kernel
theorem dL_law_3161 : decode cL_law 3161 = .ok (.istore 5, 2) := by decide +kernel
theorem dL_law_3163 : decode cL_law 3163 = .ok (.iload 5, 2) := by decide +kernel
theorem dL_law_3165 : decode cL_law 3165 = .ok (.ifCond .eq 49, 3) := by decide +kernel
theorem dL_law_3168 : decode cL_law 3168 = .ok (.aload_n 3, 1) := by decide +kernel
theorem dL_law_3169 : decode cL_law 3169 = .ok (.iconst 0, 1) := by decide +kernel
theorem dL_law_3170 : decode cL_law 3170 = .ok (.bipush 7, 2) := by decide +kernel
theorem dL_law_3172 : decode cL_law 3172 = .ok (.invokevirtual 300, 3) := by decide +kernel
theorem dL_law_3175 : decode cL_law 3175 = .ok (.iload 16, 2) := by decide +kernel
theorem dL_law_3177 : decode cL_law 3177 = .ok (.ifCond .ne 8, 3) := by decide +kernel
theorem dL_law_3180 : decode cL_law 3180 = .ok (.bipush 7, 2) := by decide +kernel
theorem dL_law_3182 : decode cL_law 3182 = .ok (.goto 4, 3) := by decide +kernel
theorem dL_law_3185 : decode cL_law 3185 = .ok (.iconst 0, 1) := by decide +kernel
theorem dL_law_3186 : decode cL_law 3186 = .ok (.if_icmp .ne 28, 3) := by decide +kernel
theorem dL_law_3189 : decode cL_law 3189 = .ok (.aload_n 3, 1) := by decide +kernel
theorem dL_law_3190 : decode cL_law 3190 = .ok (.bipush 9, 2) := by decide +kernel
theorem dL_law_3192 : decode cL_law 3192 = .ok (.iconst 5, 1) := by decide +kernel
theorem dL_law_3193 : decode cL_law 3193 = .ok (.invokevirtual 300, 3) := by decide +kernel
theorem dL_law_3196 : decode cL_law 3196 = .ok (.ifCond .lt 18, 3) := by decide +kernel
theorem dL_law_3199 : decode cL_law 3199 = .ok (.aload_n 3, 1) := by decide +kernel
theorem dL_law_3200 : decode cL_law 3200 = .ok (.bipush 9, 2) := by decide +kernel
theorem dL_law_3202 : decode cL_law 3202 = .ok (.iconst 5, 1) := by decide +kernel
theorem dL_law_3203 : decode cL_law 3203 = .ok (.invokevirtual 300, 3) := by decide +kernel
theorem dL_law_3206 : decode cL_law 3206 = .ok (.iconst 5, 1) := by decide +kernel
theorem dL_law_3207 : decode cL_law 3207 = .ok (.if_icmp .gt 7, 3) := by decide +kernel
theorem dL_law_3210 : decode cL_law 3210 = .ok (.iconst 1, 1) := by decide +kernel
theorem dL_law_3211 : decode cL_law 3211 = .ok (.goto 4, 3) := by decide +kernel
theorem dL_law_3214 : decode cL_law 3214 = .ok (.iconst 0, 1) := by decide +kernel
theorem dL_law_3215 : decode cL_law 3215 = .ok (.istore 5, 2) := by decide +kernel
theorem dL_law_3217 : decode cL_law 3217 = .ok (.aload 4, 2) := by decide +kernel
theorem dL_law_3219 : decode cL_law 3219 = .ok (.getfield 61, 3) := by decide +kernel
theorem dL_law_3222 : decode cL_law 3222 = .ok (.ifCond .le 273, 3) := by decide +kernel
theorem dL_law_3225 : decode cL_law 3225 = .ok (.aload_n 1, 1) := by decide +kernel
theorem dL_law_3226 : decode cL_law 3226 = .ok (.bipush 30, 2) := by decide +kernel
theorem dL_law_3228 : decode cL_law 3228 = .ok (.iaload, 1) := by decide +kernel
theorem dL_law_3229 : decode cL_law 3229 = .ok (.sipush 255, 3) := by decide +kernel
theorem dL_law_3232 : decode cL_law 3232 = .ok (.iand, 1) := by decide +kernel
theorem dL_law_3233 : decode cL_law 3233 = .ok (.iload 6, 2) := by decide +kernel
theorem dL_law_3235 : decode cL_law 3235 = .ok (.irem, 1) := by decide +kernel
theorem dL_law_3236 : decode cL_law 3236 = .ok (.istore 17, 2) := by decide +kernel
theorem dL_law_3238 : decode cL_law 3238 = .ok (.aload_n 3, 1) := by decide +kernel
theorem dL_law_3239 : decode cL_law 3239 = .ok (.iconst 1, 1) := by decide +kernel
theorem dL_law_3240 : decode cL_law 3240 = .ok (.iconst 0, 1) := by decide +kernel
theorem dL_law_3241 : decode cL_law 3241 = .ok (.invokevirtual 160, 3) := by decide +kernel
theorem dL_law_3244 : decode cL_law 3244 = .ok (.bipush 15, 2) := by decide +kernel
theorem dL_law_3246 : decode cL_law 3246 = .ok (.if_icmp .eq 13, 3) := by decide +kernel
theorem dL_law_3249 : decode cL_law 3249 = .ok (.aload_n 3, 1) := by decide +kernel
theorem dL_law_3250 : decode cL_law 3250 = .ok (.iconst 1, 1) := by decide +kernel
theorem dL_law_3251 : decode cL_law 3251 = .ok (.bipush 15, 2) := by decide +kernel
theorem dL_law_3253 : decode cL_law 3253 = .ok (.invokevirtual 238, 3) := by decide +kernel
theorem dL_law_3256 : decode cL_law 3256 = .ok (.ifCond .eq 7, 3) := by decide +kernel
theorem dL_law_3259 : decode cL_law 3259 = .ok (.iconst 1, 1) := by decide +kernel
theorem dL_law_3260 : decode cL_law 3260 = .ok (.goto 4, 3) := by decide +kernel
theorem dL_law_3263 : decode cL_law 3263 = .ok (.iconst 0, 1) := by decide +kernel
theorem dL_law_3264 : decode cL_law 3264 = .ok (.istore 18, 2) := by decide +kernel
theorem dL_law_3266 : decode cL_law 3266 = .ok (.aload_n 3, 1) := by decide +kernel
theorem dL_law_3267 : decode cL_law 3267 = .ok (.iconst 1, 1) := by decide +kernel
theorem dL_law_3268 : decode cL_law 3268 = .ok (.iload 17, 2) := by decide +kernel
theorem dL_law_3270 : decode cL_law 3270 = .ok (.aload_n 1, 1) := by decide +kernel
theorem dL_law_3271 : decode cL_law 3271 = .ok (.bipush 31, 2) := by decide +kernel
theorem dL_law_3273 : decode cL_law 3273 = .ok (.iaload, 1) := by decide +kernel
theorem dL_law_3274 : decode cL_law 3274 = .ok (.sipush 255, 3) := by decide +kernel
theorem dL_law_3277 : decode cL_law 3277 = .ok (.iand, 1) := by decide +kernel
theorem dL_law_3278 : decode cL_law 3278 = .ok (.aload 4, 2) := by decide +kernel
theorem dL_law_3280 : decode cL_law 3280 = .ok (.getfield 61, 3) := by decide +kernel
theorem dL_law_3283 : decode cL_law 3283 = .ok (.irem, 1) := by decide +kernel
theorem dL_law_3284 : decode cL_law 3284 = .ok (.iconst 3, 1) := by decide +kernel
theorem dL_law_3285 : decode cL_law 3285 = .ok (.invokevirtual 218, 3) := by decide +kernel
theorem dL_law_3288 : decode cL_law 3288 = .ok (.istore 19, 2) := by decide +kernel
theorem dL_law_3290 : decode cL_law 3290 = .ok (.iconst 0, 1) := by decide +kernel
theorem dL_law_3291 : decode cL_law 3291 = .ok (.istore 20, 2) := by decide +kernel
theorem dL_law_3293 : decode cL_law 3293 = .ok (.iload 20, 2) := by decide +kernel
theorem dL_law_3295 : decode cL_law 3295 = .ok (.iload 6, 2) := by decide +kernel
theorem dL_law_3297 : decode cL_law 3297 = .ok (.if_icmp .ge 178, 3) := by decide +kernel
theorem dL_law_3300 : decode cL_law 3300 = .ok (.iload 5, 2) := by decide +kernel
theorem dL_law_3302 : decode cL_law 3302 = .ok (.ifCond .eq 173, 3) := by decide +kernel
theorem dL_law_3305 : decode cL_law 3305 = .ok (.aload_n 3, 1) := by decide +kernel
theorem dL_law_3306 : decode cL_law 3306 = .ok (.iconst 1, 1) := by decide +kernel
theorem dL_law_3307 : decode cL_law 3307 = .ok (.iconst 0, 1) := by decide +kernel
theorem dL_law_3308 : decode cL_law 3308 = .ok (.invokevirtual 214, 3) := by decide +kernel
theorem dL_law_3311 : decode cL_law 3311 = .ok (.iload 20, 2) := by decide +kernel
theorem dL_law_3313 : decode cL_law 3313 = .ok (.ishr, 1) := by decide +kernel
theorem dL_law_3314 : decode cL_law 3314 = .ok (.iconst 1, 1) := by decide +kernel
theorem dL_law_3315 : decode cL_law 3315 = .ok (.iand, 1) := by decide +kernel
theorem dL_law_3316 : decode cL_law 3316 = .ok (.istore 21, 2) := by decide +kernel
theorem dL_law_3318 : decode cL_law 3318 = .ok (.iconst 0, 1) := by decide +kernel
theorem dL_law_3319 : decode cL_law 3319 = .ok (.istore 22, 2) := by decide +kernel
theorem dL_law_3321 : decode cL_law 3321 = .ok (.iconst 0, 1) := by decide +kernel
theorem dL_law_3322 : decode cL_law 3322 = .ok (.istore 23, 2) := by decide +kernel
theorem dL_law_3324 : decode cL_law 3324 = .ok (.iload 23, 2) := by decide +kernel
theorem dL_law_3326 : decode cL_law 3326 = .ok (.iload 6, 2) := by decide +kernel
theorem dL_law_3328 : decode cL_law 3328 = .ok (.if_icmp .ge 50, 3) := by decide +kernel
theorem dL_law_3331 : decode cL_law 3331 = .ok (.aload_n 3, 1) := by decide +kernel
theorem dL_law_3332 : decode cL_law 3332 = .ok (.iload 20, 2) := by decide +kernel
theorem dL_law_3334 : decode cL_law 3334 = .ok (.iload 23, 2) := by decide +kernel
theorem dL_law_3336 : decode cL_law 3336 = .ok (.invokevirtual 124, 3) := by decide +kernel
theorem dL_law_3339 : decode cL_law 3339 = .ok (.aload_n 3, 1) := by decide +kernel
theorem dL_law_3340 : decode cL_law 3340 = .ok (.iconst 1, 1) := by decide +kernel
theorem dL_law_3341 : decode cL_law 3341 = .ok (.iload 23, 2) := by decide +kernel
theorem dL_law_3343 : decode cL_law 3343 = .ok (.iconst 1, 1) := by decide +kernel
theorem dL_law_3344 : decode cL_law 3344 = .ok (.invokevirtual 174, 3) := by decide +kernel
theorem dL_law_3347 : decode cL_law 3347 = .ok (.if_icmp .lt 22, 3) := by decide +kernel
theorem dL_law_3350 : decode cL_law 3350 = .ok (.aload_n 3, 1) := by decide +kernel
theorem dL_law_3351 : decode cL_law 3351 = .ok (.iload 20, 2) := by decide +kernel
theorem dL_law_3353 : decode cL_law 3353 = .ok (.iload 23, 2) := by decide +kernel
theorem dL_law_3355 : decode cL_law 3355 = .ok (.invokevirtual 124, 3) := by decide +kernel
theorem dL_law_3358 : decode cL_law 3358 = .ok (.aload_n 3, 1) := by decide +kernel
theorem dL_law_3359 : decode cL_law 3359 = .ok (.iconst 1, 1) := by decide +kernel
theorem dL_law_3360 : decode cL_law 3360 = .ok (.iload 23, 2) := by decide +kernel
theorem dL_law_3362 : decode cL_law 3362 = .ok (.iconst 0, 1) := by decide +kernel
theorem dL_law_3363 : decode cL_law 3363 = .ok (.invokevirtual 174, 3) := by decide +kernel
theorem dL_law_3366 : decode cL_law 3366 = .ok (.if_icmp .ge 6, 3) := by decide +kernel
theorem dL_law_3369 : decode cL_law 3369 = .ok (.iconst 1, 1) := by decide +kernel
theorem dL_law_3370 : decode cL_law 3370 = .ok (.istore 22, 2) := by decide +kernel
theorem dL_law_3372 : decode cL_law 3372 = .ok (.iinc 23 1, 3) := by decide +kernel
theorem dL_law_3375 : decode cL_law 3375 = .ok (.goto (-51), 3) := by decide +kernel
theorem dL_law_3378 : decode cL_law 3378 = .ok (.iload 18, 2) := by decide +kernel
theorem dL_law_3380 : decode cL_law 3380 = .ok (.iconst 1, 1) := by decide +kernel
theorem dL_law_3381 : decode cL_law 3381 = .ok (.if_icmp .ne 85, 3) := by decide +kernel
theorem dL_law_3384 : decode cL_law 3384 = .ok (.iload 21, 2) := by decide +kernel
theorem dL_law_3386 : decode cL_law 3386 = .ok (.ifCond .ne 7, 3) := by decide +kernel
theorem dL_law_3389 : decode cL_law 3389 = .ok (.iconst 1, 1) := by decide +kernel
theorem dL_law_3390 : decode cL_law 3390 = .ok (.goto 4, 3) := by decide +kernel
theorem dL_law_3393 : decode cL_law 3393 = .ok (.iconst 0, 1) := by decide +kernel
theorem dL_law_3394 : decode cL_law 3394 = .ok (.iload 22, 2) := by decide +kernel
theorem dL_law_3396 : decode cL_law 3396 = .ok (.if_icmp .ne 70, 3) := by decide +kernel
theorem dL_law_3399 : decode cL_law 3399 = .ok (.aload_n 3, 1) := by decide +kernel
theorem dL_law_3400 : decode cL_law 3400 = .ok (.iconst 1, 1) := by decide +kernel
theorem dL_law_3401 : decode cL_law 3401 = .ok (.iconst 1, 1) := by decide +kernel
theorem dL_law_3402 : decode cL_law 3402 = .ok (.invokevirtual 214, 3) := by decide +kernel
theorem dL_law_3405 : decode cL_law 3405 = .ok (.iload 20, 2) := by decide +kernel
theorem dL_law_3407 : decode cL_law 3407 = .ok (.ishr, 1) := by decide +kernel
theorem dL_law_3408 : decode cL_law 3408 = .ok (.iconst 1, 1) := by decide +kernel
theorem dL_law_3409 : decode cL_law 3409 = .ok (.iand, 1) := by decide +kernel
theorem dL_law_3410 : decode cL_law 3410 = .ok (.iload 21, 2) := by decide +kernel
theorem dL_law_3412 : decode cL_law 3412 = .ok (.if_icmp .ne 54, 3) := by decide +kernel
theorem dL_law_3415 : decode cL_law 3415 = .ok (.aload_n 3, 1) := by decide +kernel
theorem dL_law_3416 : decode cL_law 3416 = .ok (.iconst 1, 1) := by decide +kernel
theorem dL_law_3417 : decode cL_law 3417 = .ok (.iload 20, 2) := by decide +kernel
theorem dL_law_3419 : decode cL_law 3419 = .ok (.iconst 0, 1) := by decide +kernel
theorem dL_law_3420 : decode cL_law 3420 = .ok (.invokevirtual 222, 3) := by decide +kernel
theorem dL_law_3423 : decode cL_law 3423 = .ok (.iload 21, 2) := by decide +kernel
theorem dL_law_3425 : decode cL_law 3425 = .ok (.if_icmp .ne 41, 3) := by decide +kernel
theorem dL_law_3428 : decode cL_law 3428 = .ok (.iload 21, 2) := by decide +kernel
theorem dL_law_3430 : decode cL_law 3430 = .ok (.ifCond .eq 32, 3) := by decide +kernel
theorem dL_law_3433 : decode cL_law 3433 = .ok (.iload 19, 2) := by decide +kernel
theorem dL_law_3435 : decode cL_law 3435 = .ok (.ifCond .lt 27, 3) := by decide +kernel
theorem dL_law_3438 : decode cL_law 3438 = .ok (.aload_n 3, 1) := by decide +kernel
theorem dL_law_3439 : decode cL_law 3439 = .ok (.iload 17, 2) := by decide +kernel
theorem dL_law_3441 : decode cL_law 3441 = .ok (.iload 20, 2) := by decide +kernel
theorem dL_law_3443 : decode cL_law 3443 = .ok (.invokevirtual 229, 3) := by decide +kernel
theorem dL_law_3446 : decode cL_law 3446 = .ok (.ifCond .lt 20, 3) := by decide +kernel
theorem dL_law_3449 : decode cL_law 3449 = .ok (.aload_n 3, 1) := by decide +kernel
theorem dL_law_3450 : decode cL_law 3450 = .ok (.iload 20, 2) := by decide +kernel
theorem dL_law_3452 : decode cL_law 3452 = .ok (.iload 19, 2) := by decide +kernel
theorem dL_law_3454 : decode cL_law 3454 = .ok (.invokevirtual 253, 3) := by decide +kernel
theorem dL_law_3457 : decode cL_law 3457 = .ok (.bipush (-2), 2) := by decide +kernel
theorem dL_law_3459 : decode cL_law 3459 = .ok (.if_icmp .lt 7, 3) := by decide +kernel
theorem dL_law_3462 : decode cL_law 3462 = .ok (.iconst 1, 1) := by decide +kernel
theorem dL_law_3463 : decode cL_law 3463 = .ok (.goto 4, 3) := by decide +kernel
theorem dL_law_3466 : decode cL_law 3466 = .ok (.iconst 0, 1) := by decide +kernel
theorem dL_law_3467 : decode cL_law 3467 = .ok (.istore 5, 2) := by decide +kernel
theorem dL_law_3469 : decode cL_law 3469 = .ok (.iinc 20 1, 3) := by decide +kernel
theorem dL_law_3472 : decode cL_law 3472 = .ok (.goto (-179), 3) := by decide +kernel
theorem dL_law_3475 : decode cL_law 3475 = .ok (.iload 5, 2) := by decide +kernel
theorem dL_law_3477 : decode cL_law 3477 = .ok (.ifCond .eq 15, 3) := by decide +kernel
theorem dL_law_3480 : decode cL_law 3480 = .ok (.aload_n 3, 1) := by decide +kernel
theorem dL_law_3481 : decode cL_law 3481 = .ok (.iconst 0, 1) := by decide +kernel
theorem dL_law_3482 : decode cL_law 3482 = .ok (.invokevirtual 294, 3) := by decide +kernel
theorem dL_law_3485 : decode cL_law 3485 = .ok (.ifCond .eq 7, 3) := by decide +kernel
theorem dL_law_3488 : decode cL_law 3488 = .ok (.iconst 1, 1) := by decide +kernel
theorem dL_law_3489 : decode cL_law 3489 = .ok (.goto 4, 3) := by decide +kernel
theorem dL_law_3492 : decode cL_law 3492 = .ok (.iconst 0, 1) := by decide +kernel
theorem dL_law_3493 : decode cL_law 3493 = .ok (.istore 5, 2) := by decide +kernel
theorem dL_law_3495 : decode cL_law 3495 = .ok (.iload 5, 2) := by decide +kernel
theorem dL_law_3497 : decode cL_law 3497 = .ok (.ifCond .eq 63, 3) := by decide +kernel
theorem dL_law_3500 : decode cL_law 3500 = .ok (.aload_n 3, 1) := by decide +kernel
theorem dL_law_3501 : decode cL_law 3501 = .ok (.iconst 3, 1) := by decide +kernel
theorem dL_law_3502 : decode cL_law 3502 = .ok (.invokevirtual 137, 3) := by decide +kernel
theorem dL_law_3505 : decode cL_law 3505 = .ok (.iload 8, 2) := by decide +kernel
theorem dL_law_3507 : decode cL_law 3507 = .ok (.if_icmp .ne 53, 3) := by decide +kernel
theorem dL_law_3510 : decode cL_law 3510 = .ok (.aload_n 3, 1) := by decide +kernel
theorem dL_law_3511 : decode cL_law 3511 = .ok (.iconst 4, 1) := by decide +kernel
theorem dL_law_3512 : decode cL_law 3512 = .ok (.invokevirtual 137, 3) := by decide +kernel
theorem dL_law_3515 : decode cL_law 3515 = .ok (.iload 9, 2) := by decide +kernel
theorem dL_law_3517 : decode cL_law 3517 = .ok (.if_icmp .ne 43, 3) := by decide +kernel
theorem dL_law_3520 : decode cL_law 3520 = .ok (.aload_n 3, 1) := by decide +kernel
theorem dL_law_3521 : decode cL_law 3521 = .ok (.bipush 7, 2) := by decide +kernel
theorem dL_law_3523 : decode cL_law 3523 = .ok (.invokevirtual 137, 3) := by decide +kernel
theorem dL_law_3526 : decode cL_law 3526 = .ok (.iload 10, 2) := by decide +kernel
theorem dL_law_3528 : decode cL_law 3528 = .ok (.if_icmp .ne 32, 3) := by decide +kernel
theorem dL_law_3531 : decode cL_law 3531 = .ok (.aload_n 3, 1) := by decide +kernel
theorem dL_law_3532 : decode cL_law 3532 = .ok (.iconst 0, 1) := by decide +kernel
theorem dL_law_3533 : decode cL_law 3533 = .ok (.invokevirtual 294, 3) := by decide +kernel
theorem dL_law_3536 : decode cL_law 3536 = .ok (.ifCond .eq 24, 3) := by decide +kernel
theorem dL_law_3539 : decode cL_law 3539 = .ok (.aload_n 3, 1) := by decide +kernel
theorem dL_law_3540 : decode cL_law 3540 = .ok (.bipush 9, 2) := by decide +kernel
theorem dL_law_3542 : decode cL_law 3542 = .ok (.invokevirtual 137, 3) := by decide +kernel
theorem dL_law_3545 : decode cL_law 3545 = .ok (.ifCond .ne 15, 3) := by decide +kernel
theorem dL_law_3548 : decode cL_law 3548 = .ok (.aload_n 3, 1) := by decide +kernel
theorem dL_law_3549 : decode cL_law 3549 = .ok (.iconst 1, 1) := by decide +kernel
theorem dL_law_3550 : decode cL_law 3550 = .ok (.invokevirtual 294, 3) := by decide +kernel
theorem dL_law_3553 : decode cL_law 3553 = .ok (.ifCond .ne 7, 3) := by decide +kernel
theorem dL_law_3556 : decode cL_law 3556 = .ok (.iconst 1, 1) := by decide +kernel
theorem dL_law_3557 : decode cL_law 3557 = .ok (.goto 4, 3) := by decide +kernel
theorem dL_law_3560 : decode cL_law 3560 = .ok (.iconst 0, 1) := by decide +kernel
