/-! The law's own decode rows, 7 -/
theorem dL_law_2687 : decode cL_law 2687 = .ok (.iaload, 1) := by decide +kernel
theorem dL_law_2688 : decode cL_law 2688 = .ok (.aload_n 3, 1) := by decide +kernel
theorem dL_law_2689 : decode cL_law 2689 = .ok (.invokestatic 291, 3) := by decide +kernel
theorem dL_law_2692 : decode cL_law 2692 = .ok (.istore 6, 2) := by decide +kernel
theorem dL_law_2694 : decode cL_law 2694 = .ok (.aload_n 2, 1) := by decide +kernel
theorem dL_law_2695 : decode cL_law 2695 = .ok (.aload_n 0, 1) := by decide +kernel
theorem dL_law_2696 : decode cL_law 2696 = .ok (.iload 5, 2) := by decide +kernel
theorem dL_law_2698 : decode cL_law 2698 = .ok (.iconst 1, 1) := by decide +kernel
theorem dL_law_2699 : decode cL_law 2699 = .ok (.iadd, 1) := by decide +kernel
theorem dL_law_2700 : decode cL_law 2700 = .ok (.iaload, 1) := by decide +kernel
theorem dL_law_2701 : decode cL_law 2701 = .ok (.aload_n 0, 1) := by decide +kernel
theorem dL_law_2702 : decode cL_law 2702 = .ok (.iload 5, 2) := by decide +kernel
theorem dL_law_2704 : decode cL_law 2704 = .ok (.iconst 2, 1) := by decide +kernel
theorem dL_law_2705 : decode cL_law 2705 = .ok (.iadd, 1) := by decide +kernel
theorem dL_law_2706 : decode cL_law 2706 = .ok (.iaload, 1) := by decide +kernel
theorem dL_law_2707 : decode cL_law 2707 = .ok (.aload_n 0, 1) := by decide +kernel
theorem dL_law_2708 : decode cL_law 2708 = .ok (.iload 5, 2) := by decide +kernel
theorem dL_law_2710 : decode cL_law 2710 = .ok (.iconst 3, 1) := by decide +kernel
theorem dL_law_2711 : decode cL_law 2711 = .ok (.iadd, 1) := by decide +kernel
theorem dL_law_2712 : decode cL_law 2712 = .ok (.iaload, 1) := by decide +kernel
theorem dL_law_2713 : decode cL_law 2713 = .ok (.invokevirtual 293, 3) := by decide +kernel
theorem dL_law_2716 : decode cL_law 2716 = .ok (.istore 7, 2) := by decide +kernel
theorem dL_law_2718 : decode cL_law 2718 = .ok (.aload_n 2, 1) := by decide +kernel
theorem dL_law_2719 : decode cL_law 2719 = .ok (.invokevirtual 169, 3) := by decide +kernel
theorem dL_law_2722 : decode cL_law 2722 = .ok (.iload 6, 2) := by decide +kernel
theorem dL_law_2724 : decode cL_law 2724 = .ok (.if_icmp .eq 5, 3) := by decide +kernel
theorem dL_law_2727 : decode cL_law 2727 = .ok (.iconst 0, 1) := by decide +kernel
theorem dL_law_2728 : decode cL_law 2728 = .ok (.ireturn, 1) := by decide +kernel
theorem dL_law_2729 : decode cL_law 2729 = .ok (.iload 6, 2) := by decide +kernel
theorem dL_law_2731 : decode cL_law 2731 = .ok (.ifCond .ne 15, 3) := by decide +kernel
theorem dL_law_2734 : decode cL_law 2734 = .ok (.aload_n 3, 1) := by decide +kernel
theorem dL_law_2735 : decode cL_law 2735 = .ok (.iconst 0, 1) := by decide +kernel
theorem dL_law_2736 : decode cL_law 2736 = .ok (.laload, 1) := by decide +kernel
theorem dL_law_2737 : decode cL_law 2737 = .ok (.iload 7, 2) := by decide +kernel
theorem dL_law_2739 : decode cL_law 2739 = .ok (.i2l, 1) := by decide +kernel
theorem dL_law_2740 : decode cL_law 2740 = .ok (.lcmp, 1) := by decide +kernel
theorem dL_law_2741 : decode cL_law 2741 = .ok (.ifCond .eq 5, 3) := by decide +kernel
theorem dL_law_2744 : decode cL_law 2744 = .ok (.iconst 0, 1) := by decide +kernel
theorem dL_law_2745 : decode cL_law 2745 = .ok (.ireturn, 1) := by decide +kernel
theorem dL_law_2746 : decode cL_law 2746 = .ok (.goto 307, 3) := by decide +kernel
theorem dL_law_2749 : decode cL_law 2749 = .ok (.aload_n 1, 1) := by decide +kernel
theorem dL_law_2750 : decode cL_law 2750 = .ok (.aload_n 0, 1) := by decide +kernel
theorem dL_law_2751 : decode cL_law 2751 = .ok (.iload 5, 2) := by decide +kernel
theorem dL_law_2753 : decode cL_law 2753 = .ok (.iconst 1, 1) := by decide +kernel
theorem dL_law_2754 : decode cL_law 2754 = .ok (.iadd, 1) := by decide +kernel
theorem dL_law_2755 : decode cL_law 2755 = .ok (.iaload, 1) := by decide +kernel
theorem dL_law_2756 : decode cL_law 2756 = .ok (.aload_n 0, 1) := by decide +kernel
theorem dL_law_2757 : decode cL_law 2757 = .ok (.iload 5, 2) := by decide +kernel
theorem dL_law_2759 : decode cL_law 2759 = .ok (.iconst 2, 1) := by decide +kernel
theorem dL_law_2760 : decode cL_law 2760 = .ok (.iadd, 1) := by decide +kernel
theorem dL_law_2761 : decode cL_law 2761 = .ok (.iaload, 1) := by decide +kernel
theorem dL_law_2762 : decode cL_law 2762 = .ok (.aload_n 0, 1) := by decide +kernel
theorem dL_law_2763 : decode cL_law 2763 = .ok (.iload 5, 2) := by decide +kernel
theorem dL_law_2765 : decode cL_law 2765 = .ok (.iconst 3, 1) := by decide +kernel
theorem dL_law_2766 : decode cL_law 2766 = .ok (.iadd, 1) := by decide +kernel
theorem dL_law_2767 : decode cL_law 2767 = .ok (.iaload, 1) := by decide +kernel
theorem dL_law_2768 : decode cL_law 2768 = .ok (.aload_n 3, 1) := by decide +kernel
theorem dL_law_2769 : decode cL_law 2769 = .ok (.invokestatic 294, 3) := by decide +kernel
theorem dL_law_2772 : decode cL_law 2772 = .ok (.istore 6, 2) := by decide +kernel
theorem dL_law_2774 : decode cL_law 2774 = .ok (.aload_n 2, 1) := by decide +kernel
theorem dL_law_2775 : decode cL_law 2775 = .ok (.aload_n 0, 1) := by decide +kernel
theorem dL_law_2776 : decode cL_law 2776 = .ok (.iload 5, 2) := by decide +kernel
theorem dL_law_2778 : decode cL_law 2778 = .ok (.iconst 1, 1) := by decide +kernel
theorem dL_law_2779 : decode cL_law 2779 = .ok (.iadd, 1) := by decide +kernel
theorem dL_law_2780 : decode cL_law 2780 = .ok (.iaload, 1) := by decide +kernel
theorem dL_law_2781 : decode cL_law 2781 = .ok (.aload_n 0, 1) := by decide +kernel
theorem dL_law_2782 : decode cL_law 2782 = .ok (.iload 5, 2) := by decide +kernel
theorem dL_law_2784 : decode cL_law 2784 = .ok (.iconst 2, 1) := by decide +kernel
theorem dL_law_2785 : decode cL_law 2785 = .ok (.iadd, 1) := by decide +kernel
theorem dL_law_2786 : decode cL_law 2786 = .ok (.iaload, 1) := by decide +kernel
theorem dL_law_2787 : decode cL_law 2787 = .ok (.aload_n 0, 1) := by decide +kernel
theorem dL_law_2788 : decode cL_law 2788 = .ok (.iload 5, 2) := by decide +kernel
theorem dL_law_2790 : decode cL_law 2790 = .ok (.iconst 3, 1) := by decide +kernel
theorem dL_law_2791 : decode cL_law 2791 = .ok (.iadd, 1) := by decide +kernel
theorem dL_law_2792 : decode cL_law 2792 = .ok (.iaload, 1) := by decide +kernel
theorem dL_law_2793 : decode cL_law 2793 = .ok (.invokevirtual 296, 3) := by decide +kernel
theorem dL_law_2796 : decode cL_law 2796 = .ok (.lstore 7, 2) := by decide +kernel
theorem dL_law_2798 : decode cL_law 2798 = .ok (.aload_n 2, 1) := by decide +kernel
theorem dL_law_2799 : decode cL_law 2799 = .ok (.invokevirtual 169, 3) := by decide +kernel
theorem dL_law_2802 : decode cL_law 2802 = .ok (.iload 6, 2) := by decide +kernel
theorem dL_law_2804 : decode cL_law 2804 = .ok (.if_icmp .eq 5, 3) := by decide +kernel
theorem dL_law_2807 : decode cL_law 2807 = .ok (.iconst 0, 1) := by decide +kernel
theorem dL_law_2808 : decode cL_law 2808 = .ok (.ireturn, 1) := by decide +kernel
theorem dL_law_2809 : decode cL_law 2809 = .ok (.iload 6, 2) := by decide +kernel
theorem dL_law_2811 : decode cL_law 2811 = .ok (.ifCond .ne 14, 3) := by decide +kernel
theorem dL_law_2814 : decode cL_law 2814 = .ok (.aload_n 3, 1) := by decide +kernel
theorem dL_law_2815 : decode cL_law 2815 = .ok (.iconst 0, 1) := by decide +kernel
theorem dL_law_2816 : decode cL_law 2816 = .ok (.laload, 1) := by decide +kernel
theorem dL_law_2817 : decode cL_law 2817 = .ok (.lload 7, 2) := by decide +kernel
theorem dL_law_2819 : decode cL_law 2819 = .ok (.lcmp, 1) := by decide +kernel
theorem dL_law_2820 : decode cL_law 2820 = .ok (.ifCond .eq 5, 3) := by decide +kernel
theorem dL_law_2823 : decode cL_law 2823 = .ok (.iconst 0, 1) := by decide +kernel
theorem dL_law_2824 : decode cL_law 2824 = .ok (.ireturn, 1) := by decide +kernel
theorem dL_law_2825 : decode cL_law 2825 = .ok (.goto 228, 3) := by decide +kernel
theorem dL_law_2828 : decode cL_law 2828 = .ok (.aload_n 1, 1) := by decide +kernel
theorem dL_law_2829 : decode cL_law 2829 = .ok (.aload_n 0, 1) := by decide +kernel
theorem dL_law_2830 : decode cL_law 2830 = .ok (.iload 5, 2) := by decide +kernel
theorem dL_law_2832 : decode cL_law 2832 = .ok (.iconst 1, 1) := by decide +kernel
theorem dL_law_2833 : decode cL_law 2833 = .ok (.iadd, 1) := by decide +kernel
theorem dL_law_2834 : decode cL_law 2834 = .ok (.iaload, 1) := by decide +kernel
theorem dL_law_2835 : decode cL_law 2835 = .ok (.aload_n 0, 1) := by decide +kernel
theorem dL_law_2836 : decode cL_law 2836 = .ok (.iload 5, 2) := by decide +kernel
theorem dL_law_2838 : decode cL_law 2838 = .ok (.iconst 2, 1) := by decide +kernel
theorem dL_law_2839 : decode cL_law 2839 = .ok (.iadd, 1) := by decide +kernel
theorem dL_law_2840 : decode cL_law 2840 = .ok (.iaload, 1) := by decide +kernel
theorem dL_law_2841 : decode cL_law 2841 = .ok (.aload_n 3, 1) := by decide +kernel
theorem dL_law_2842 : decode cL_law 2842 = .ok (.invokestatic 297, 3) := by decide +kernel
theorem dL_law_2845 : decode cL_law 2845 = .ok (.istore 6, 2) := by decide +kernel
theorem dL_law_2847 : decode cL_law 2847 = .ok (.aload_n 2, 1) := by decide +kernel
theorem dL_law_2848 : decode cL_law 2848 = .ok (.aload_n 0, 1) := by decide +kernel
theorem dL_law_2849 : decode cL_law 2849 = .ok (.iload 5, 2) := by decide +kernel
theorem dL_law_2851 : decode cL_law 2851 = .ok (.iconst 1, 1) := by decide +kernel
theorem dL_law_2852 : decode cL_law 2852 = .ok (.iadd, 1) := by decide +kernel
theorem dL_law_2853 : decode cL_law 2853 = .ok (.iaload, 1) := by decide +kernel
theorem dL_law_2854 : decode cL_law 2854 = .ok (.aload_n 0, 1) := by decide +kernel
theorem dL_law_2855 : decode cL_law 2855 = .ok (.iload 5, 2) := by decide +kernel
theorem dL_law_2857 : decode cL_law 2857 = .ok (.iconst 2, 1) := by decide +kernel
theorem dL_law_2858 : decode cL_law 2858 = .ok (.iadd, 1) := by decide +kernel
theorem dL_law_2859 : decode cL_law 2859 = .ok (.iaload, 1) := by decide +kernel
theorem dL_law_2860 : decode cL_law 2860 = .ok (.invokevirtual 299, 3) := by decide +kernel
theorem dL_law_2863 : decode cL_law 2863 = .ok (.istore 7, 2) := by decide +kernel
theorem dL_law_2865 : decode cL_law 2865 = .ok (.aload_n 2, 1) := by decide +kernel
theorem dL_law_2866 : decode cL_law 2866 = .ok (.invokevirtual 169, 3) := by decide +kernel
theorem dL_law_2869 : decode cL_law 2869 = .ok (.iload 6, 2) := by decide +kernel
theorem dL_law_2871 : decode cL_law 2871 = .ok (.if_icmp .eq 5, 3) := by decide +kernel
theorem dL_law_2874 : decode cL_law 2874 = .ok (.iconst 0, 1) := by decide +kernel
theorem dL_law_2875 : decode cL_law 2875 = .ok (.ireturn, 1) := by decide +kernel
theorem dL_law_2876 : decode cL_law 2876 = .ok (.iload 6, 2) := by decide +kernel
theorem dL_law_2878 : decode cL_law 2878 = .ok (.ifCond .ne 15, 3) := by decide +kernel
theorem dL_law_2881 : decode cL_law 2881 = .ok (.aload_n 3, 1) := by decide +kernel
theorem dL_law_2882 : decode cL_law 2882 = .ok (.iconst 0, 1) := by decide +kernel
theorem dL_law_2883 : decode cL_law 2883 = .ok (.laload, 1) := by decide +kernel
theorem dL_law_2884 : decode cL_law 2884 = .ok (.iload 7, 2) := by decide +kernel
theorem dL_law_2886 : decode cL_law 2886 = .ok (.i2l, 1) := by decide +kernel
theorem dL_law_2887 : decode cL_law 2887 = .ok (.lcmp, 1) := by decide +kernel
theorem dL_law_2888 : decode cL_law 2888 = .ok (.ifCond .eq 5, 3) := by decide +kernel
theorem dL_law_2891 : decode cL_law 2891 = .ok (.iconst 0, 1) := by decide +kernel
theorem dL_law_2892 : decode cL_law 2892 = .ok (.ireturn, 1) := by decide +kernel
theorem dL_law_2893 : decode cL_law 2893 = .ok (.goto 160, 3) := by decide +kernel
theorem dL_law_2896 : decode cL_law 2896 = .ok (.aload_n 1, 1) := by decide +kernel
theorem dL_law_2897 : decode cL_law 2897 = .ok (.invokevirtual 300, 3) := by decide +kernel
theorem dL_law_2900 : decode cL_law 2900 = .ok (.aload_n 2, 1) := by decide +kernel
theorem dL_law_2901 : decode cL_law 2901 = .ok (.invokevirtual 303, 3) := by decide +kernel
theorem dL_law_2904 : decode cL_law 2904 = .ok (.if_icmp .eq 149, 3) := by decide +kernel
theorem dL_law_2907 : decode cL_law 2907 = .ok (.iconst 0, 1) := by decide +kernel
theorem dL_law_2908 : decode cL_law 2908 = .ok (.ireturn, 1) := by decide +kernel
theorem dL_law_2909 : decode cL_law 2909 = .ok (.aload_n 1, 1) := by decide +kernel
theorem dL_law_2910 : decode cL_law 2910 = .ok (.aload 4, 2) := by decide +kernel
theorem dL_law_2912 : decode cL_law 2912 = .ok (.invokestatic 304, 3) := by decide +kernel
theorem dL_law_2915 : decode cL_law 2915 = .ok (.istore 6, 2) := by decide +kernel
theorem dL_law_2917 : decode cL_law 2917 = .ok (.aload_n 2, 1) := by decide +kernel
theorem dL_law_2918 : decode cL_law 2918 = .ok (.invokevirtual 307, 3) := by decide +kernel
theorem dL_law_2921 : decode cL_law 2921 = .ok (.fstore 7, 2) := by decide +kernel
theorem dL_law_2923 : decode cL_law 2923 = .ok (.aload_n 2, 1) := by decide +kernel
theorem dL_law_2924 : decode cL_law 2924 = .ok (.invokevirtual 169, 3) := by decide +kernel
theorem dL_law_2927 : decode cL_law 2927 = .ok (.iload 6, 2) := by decide +kernel
theorem dL_law_2929 : decode cL_law 2929 = .ok (.if_icmp .eq 5, 3) := by decide +kernel
theorem dL_law_2932 : decode cL_law 2932 = .ok (.iconst 0, 1) := by decide +kernel
theorem dL_law_2933 : decode cL_law 2933 = .ok (.ireturn, 1) := by decide +kernel
theorem dL_law_2934 : decode cL_law 2934 = .ok (.iload 6, 2) := by decide +kernel
theorem dL_law_2936 : decode cL_law 2936 = .ok (.ifCond .ne 36, 3) := by decide +kernel
theorem dL_law_2939 : decode cL_law 2939 = .ok (.aload 4, 2) := by decide +kernel
theorem dL_law_2941 : decode cL_law 2941 = .ok (.iconst 0, 1) := by decide +kernel
theorem dL_law_2942 : decode cL_law 2942 = .ok (.daload, 1) := by decide +kernel
theorem dL_law_2943 : decode cL_law 2943 = .ok (.fload 7, 2) := by decide +kernel
theorem dL_law_2945 : decode cL_law 2945 = .ok (.f2d, 1) := by decide +kernel
theorem dL_law_2946 : decode cL_law 2946 = .ok (.dcmp .l, 1) := by decide +kernel
theorem dL_law_2947 : decode cL_law 2947 = .ok (.ifCond .eq 25, 3) := by decide +kernel
theorem dL_law_2950 : decode cL_law 2950 = .ok (.aload 4, 2) := by decide +kernel
theorem dL_law_2952 : decode cL_law 2952 = .ok (.iconst 0, 1) := by decide +kernel
theorem dL_law_2953 : decode cL_law 2953 = .ok (.daload, 1) := by decide +kernel
theorem dL_law_2954 : decode cL_law 2954 = .ok (.aload 4, 2) := by decide +kernel
theorem dL_law_2956 : decode cL_law 2956 = .ok (.iconst 0, 1) := by decide +kernel
theorem dL_law_2957 : decode cL_law 2957 = .ok (.daload, 1) := by decide +kernel
theorem dL_law_2958 : decode cL_law 2958 = .ok (.dcmp .l, 1) := by decide +kernel
theorem dL_law_2959 : decode cL_law 2959 = .ok (.ifCond .eq 11, 3) := by decide +kernel
theorem dL_law_2962 : decode cL_law 2962 = .ok (.fload 7, 2) := by decide +kernel
theorem dL_law_2964 : decode cL_law 2964 = .ok (.fload 7, 2) := by decide +kernel
theorem dL_law_2966 : decode cL_law 2966 = .ok (.fcmp .l, 1) := by decide +kernel
theorem dL_law_2967 : decode cL_law 2967 = .ok (.ifCond .ne 5, 3) := by decide +kernel
theorem dL_law_2970 : decode cL_law 2970 = .ok (.iconst 0, 1) := by decide +kernel
theorem dL_law_2971 : decode cL_law 2971 = .ok (.ireturn, 1) := by decide +kernel
theorem dL_law_2972 : decode cL_law 2972 = .ok (.goto 81, 3) := by decide +kernel
theorem dL_law_2975 : decode cL_law 2975 = .ok (.aload_n 1, 1) := by decide +kernel
theorem dL_law_2976 : decode cL_law 2976 = .ok (.aload 4, 2) := by decide +kernel
theorem dL_law_2978 : decode cL_law 2978 = .ok (.invokestatic 308, 3) := by decide +kernel
theorem dL_law_2981 : decode cL_law 2981 = .ok (.istore 6, 2) := by decide +kernel
theorem dL_law_2983 : decode cL_law 2983 = .ok (.aload_n 2, 1) := by decide +kernel
theorem dL_law_2984 : decode cL_law 2984 = .ok (.invokevirtual 310, 3) := by decide +kernel
theorem dL_law_2987 : decode cL_law 2987 = .ok (.dstore 7, 2) := by decide +kernel
theorem dL_law_2989 : decode cL_law 2989 = .ok (.aload_n 2, 1) := by decide +kernel
theorem dL_law_2990 : decode cL_law 2990 = .ok (.invokevirtual 169, 3) := by decide +kernel
theorem dL_law_2993 : decode cL_law 2993 = .ok (.iload 6, 2) := by decide +kernel
theorem dL_law_2995 : decode cL_law 2995 = .ok (.if_icmp .eq 5, 3) := by decide +kernel
theorem dL_law_2998 : decode cL_law 2998 = .ok (.iconst 0, 1) := by decide +kernel
theorem dL_law_2999 : decode cL_law 2999 = .ok (.ireturn, 1) := by decide +kernel
theorem dL_law_3000 : decode cL_law 3000 = .ok (.iload 6, 2) := by decide +kernel
theorem dL_law_3002 : decode cL_law 3002 = .ok (.ifCond .ne 35, 3) := by decide +kernel
theorem dL_law_3005 : decode cL_law 3005 = .ok (.aload 4, 2) := by decide +kernel
theorem dL_law_3007 : decode cL_law 3007 = .ok (.iconst 0, 1) := by decide +kernel
theorem dL_law_3008 : decode cL_law 3008 = .ok (.daload, 1) := by decide +kernel
theorem dL_law_3009 : decode cL_law 3009 = .ok (.dload 7, 2) := by decide +kernel
theorem dL_law_3011 : decode cL_law 3011 = .ok (.dcmp .l, 1) := by decide +kernel
theorem dL_law_3012 : decode cL_law 3012 = .ok (.ifCond .eq 25, 3) := by decide +kernel
theorem dL_law_3015 : decode cL_law 3015 = .ok (.aload 4, 2) := by decide +kernel
theorem dL_law_3017 : decode cL_law 3017 = .ok (.iconst 0, 1) := by decide +kernel
theorem dL_law_3018 : decode cL_law 3018 = .ok (.daload, 1) := by decide +kernel
theorem dL_law_3019 : decode cL_law 3019 = .ok (.aload 4, 2) := by decide +kernel
theorem dL_law_3021 : decode cL_law 3021 = .ok (.iconst 0, 1) := by decide +kernel
theorem dL_law_3022 : decode cL_law 3022 = .ok (.daload, 1) := by decide +kernel
theorem dL_law_3023 : decode cL_law 3023 = .ok (.dcmp .l, 1) := by decide +kernel
theorem dL_law_3024 : decode cL_law 3024 = .ok (.ifCond .eq 11, 3) := by decide +kernel
theorem dL_law_3027 : decode cL_law 3027 = .ok (.dload 7, 2) := by decide +kernel
theorem dL_law_3029 : decode cL_law 3029 = .ok (.dload 7, 2) := by decide +kernel
theorem dL_law_3031 : decode cL_law 3031 = .ok (.dcmp .l, 1) := by decide +kernel
theorem dL_law_3032 : decode cL_law 3032 = .ok (.ifCond .ne 5, 3) := by decide +kernel
theorem dL_law_3035 : decode cL_law 3035 = .ok (.iconst 0, 1) := by decide +kernel
theorem dL_law_3036 : decode cL_law 3036 = .ok (.ireturn, 1) := by decide +kernel
theorem dL_law_3037 : decode cL_law 3037 = .ok (.goto 16, 3) := by decide +kernel
theorem dL_law_3040 : decode cL_law 3040 = .ok (.aload_n 1, 1) := by decide +kernel
theorem dL_law_3041 : decode cL_law 3041 = .ok (.invokevirtual 311, 3) := by decide +kernel
theorem dL_law_3044 : decode cL_law 3044 = .ok (.aload_n 2, 1) := by decide +kernel
theorem dL_law_3045 : decode cL_law 3045 = .ok (.invokevirtual 315, 3) := by decide +kernel
theorem dL_law_3048 : decode cL_law 3048 = .ok (.if_icmp .eq 5, 3) := by decide +kernel
theorem dL_law_3051 : decode cL_law 3051 = .ok (.iconst 0, 1) := by decide +kernel
theorem dL_law_3052 : decode cL_law 3052 = .ok (.ireturn, 1) := by decide +kernel
theorem dL_law_3053 : decode cL_law 3053 = .ok (.iinc 5 5, 3) := by decide +kernel
theorem dL_law_3056 : decode cL_law 3056 = .ok (.goto (-3028), 3) := by decide +kernel
theorem dL_law_3059 : decode cL_law 3059 = .ok (.iconst 1, 1) := by decide +kernel
theorem dL_law_3060 : decode cL_law 3060 = .ok (.ireturn, 1) := by decide +kernel
