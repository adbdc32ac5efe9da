/-! decode rows of the law -/
theorem dL_law_2740 : decode cL_law 2740 = .ok (.iconst 1, 1) := by decide +kernel
theorem dL_law_2741 : decode cL_law 2741 = .ok (.iadd, 1) := by decide +kernel
theorem dL_law_2742 : decode cL_law 2742 = .ok (.iaload, 1) := by decide +kernel
theorem dL_law_2743 : decode cL_law 2743 = .ok (.aload_n 0, 1) := by decide +kernel
theorem dL_law_2744 : decode cL_law 2744 = .ok (.iload 4, 2) := by decide +kernel
theorem dL_law_2746 : decode cL_law 2746 = .ok (.iconst 2, 1) := by decide +kernel
theorem dL_law_2747 : decode cL_law 2747 = .ok (.iadd, 1) := by decide +kernel
theorem dL_law_2748 : decode cL_law 2748 = .ok (.iaload, 1) := by decide +kernel
theorem dL_law_2749 : decode cL_law 2749 = .ok (.aload_n 0, 1) := by decide +kernel
theorem dL_law_2750 : decode cL_law 2750 = .ok (.iload 4, 2) := by decide +kernel
theorem dL_law_2752 : decode cL_law 2752 = .ok (.iconst 3, 1) := by decide +kernel
theorem dL_law_2753 : decode cL_law 2753 = .ok (.iadd, 1) := by decide +kernel
theorem dL_law_2754 : decode cL_law 2754 = .ok (.iaload, 1) := by decide +kernel
theorem dL_law_2755 : decode cL_law 2755 = .ok (.invokevirtual 322, 3) := by decide +kernel
theorem dL_law_2758 : decode cL_law 2758 = .ok (.if_icmp .eq 785, 3) := by decide +kernel
theorem dL_law_2761 : decode cL_law 2761 = .ok (.iconst 0, 1) := by decide +kernel
theorem dL_law_2762 : decode cL_law 2762 = .ok (.ireturn, 1) := by decide +kernel
theorem dL_law_2763 : decode cL_law 2763 = .ok (.aload_n 1, 1) := by decide +kernel
theorem dL_law_2764 : decode cL_law 2764 = .ok (.aload_n 0, 1) := by decide +kernel
theorem dL_law_2765 : decode cL_law 2765 = .ok (.iload 4, 2) := by decide +kernel
theorem dL_law_2767 : decode cL_law 2767 = .ok (.iconst 1, 1) := by decide +kernel
theorem dL_law_2768 : decode cL_law 2768 = .ok (.iadd, 1) := by decide +kernel
theorem dL_law_2769 : decode cL_law 2769 = .ok (.iaload, 1) := by decide +kernel
theorem dL_law_2770 : decode cL_law 2770 = .ok (.aload_n 0, 1) := by decide +kernel
theorem dL_law_2771 : decode cL_law 2771 = .ok (.iload 4, 2) := by decide +kernel
theorem dL_law_2773 : decode cL_law 2773 = .ok (.iconst 2, 1) := by decide +kernel
theorem dL_law_2774 : decode cL_law 2774 = .ok (.iadd, 1) := by decide +kernel
theorem dL_law_2775 : decode cL_law 2775 = .ok (.iaload, 1) := by decide +kernel
theorem dL_law_2776 : decode cL_law 2776 = .ok (.invokevirtual 323, 3) := by decide +kernel
theorem dL_law_2779 : decode cL_law 2779 = .ok (.aload_n 2, 1) := by decide +kernel
theorem dL_law_2780 : decode cL_law 2780 = .ok (.aload_n 0, 1) := by decide +kernel
theorem dL_law_2781 : decode cL_law 2781 = .ok (.iload 4, 2) := by decide +kernel
theorem dL_law_2783 : decode cL_law 2783 = .ok (.iconst 1, 1) := by decide +kernel
theorem dL_law_2784 : decode cL_law 2784 = .ok (.iadd, 1) := by decide +kernel
theorem dL_law_2785 : decode cL_law 2785 = .ok (.iaload, 1) := by decide +kernel
theorem dL_law_2786 : decode cL_law 2786 = .ok (.aload_n 0, 1) := by decide +kernel
theorem dL_law_2787 : decode cL_law 2787 = .ok (.iload 4, 2) := by decide +kernel
theorem dL_law_2789 : decode cL_law 2789 = .ok (.iconst 2, 1) := by decide +kernel
theorem dL_law_2790 : decode cL_law 2790 = .ok (.iadd, 1) := by decide +kernel
theorem dL_law_2791 : decode cL_law 2791 = .ok (.iaload, 1) := by decide +kernel
theorem dL_law_2792 : decode cL_law 2792 = .ok (.invokevirtual 326, 3) := by decide +kernel
theorem dL_law_2795 : decode cL_law 2795 = .ok (.if_icmp .eq 748, 3) := by decide +kernel
theorem dL_law_2798 : decode cL_law 2798 = .ok (.iconst 0, 1) := by decide +kernel
theorem dL_law_2799 : decode cL_law 2799 = .ok (.ireturn, 1) := by decide +kernel
theorem dL_law_2800 : decode cL_law 2800 = .ok (.aload_n 1, 1) := by decide +kernel
theorem dL_law_2801 : decode cL_law 2801 = .ok (.aload_n 0, 1) := by decide +kernel
theorem dL_law_2802 : decode cL_law 2802 = .ok (.iload 4, 2) := by decide +kernel
theorem dL_law_2804 : decode cL_law 2804 = .ok (.iconst 1, 1) := by decide +kernel
theorem dL_law_2805 : decode cL_law 2805 = .ok (.iadd, 1) := by decide +kernel
theorem dL_law_2806 : decode cL_law 2806 = .ok (.iaload, 1) := by decide +kernel
theorem dL_law_2807 : decode cL_law 2807 = .ok (.aload_n 3, 1) := by decide +kernel
theorem dL_law_2808 : decode cL_law 2808 = .ok (.invokestatic 327, 3) := by decide +kernel
theorem dL_law_2811 : decode cL_law 2811 = .ok (.istore 5, 2) := by decide +kernel
theorem dL_law_2813 : decode cL_law 2813 = .ok (.aload_n 2, 1) := by decide +kernel
theorem dL_law_2814 : decode cL_law 2814 = .ok (.aload_n 0, 1) := by decide +kernel
theorem dL_law_2815 : decode cL_law 2815 = .ok (.iload 4, 2) := by decide +kernel
theorem dL_law_2817 : decode cL_law 2817 = .ok (.iconst 1, 1) := by decide +kernel
theorem dL_law_2818 : decode cL_law 2818 = .ok (.iadd, 1) := by decide +kernel
theorem dL_law_2819 : decode cL_law 2819 = .ok (.iaload, 1) := by decide +kernel
theorem dL_law_2820 : decode cL_law 2820 = .ok (.invokevirtual 329, 3) := by decide +kernel
theorem dL_law_2823 : decode cL_law 2823 = .ok (.istore 6, 2) := by decide +kernel
theorem dL_law_2825 : decode cL_law 2825 = .ok (.aload_n 2, 1) := by decide +kernel
theorem dL_law_2826 : decode cL_law 2826 = .ok (.invokevirtual 191, 3) := by decide +kernel
theorem dL_law_2829 : decode cL_law 2829 = .ok (.iload 5, 2) := by decide +kernel
theorem dL_law_2831 : decode cL_law 2831 = .ok (.if_icmp .eq 5, 3) := by decide +kernel
theorem dL_law_2834 : decode cL_law 2834 = .ok (.iconst 0, 1) := by decide +kernel
theorem dL_law_2835 : decode cL_law 2835 = .ok (.ireturn, 1) := by decide +kernel
theorem dL_law_2836 : decode cL_law 2836 = .ok (.iload 5, 2) := by decide +kernel
theorem dL_law_2838 : decode cL_law 2838 = .ok (.ifCond .ne 15, 3) := by decide +kernel
theorem dL_law_2841 : decode cL_law 2841 = .ok (.aload_n 3, 1) := by decide +kernel
theorem dL_law_2842 : decode cL_law 2842 = .ok (.iconst 0, 1) := by decide +kernel
theorem dL_law_2843 : decode cL_law 2843 = .ok (.laload, 1) := by decide +kernel
theorem dL_law_2844 : decode cL_law 2844 = .ok (.iload 6, 2) := by decide +kernel
theorem dL_law_2846 : decode cL_law 2846 = .ok (.i2l, 1) := by decide +kernel
theorem dL_law_2847 : decode cL_law 2847 = .ok (.lcmp, 1) := by decide +kernel
theorem dL_law_2848 : decode cL_law 2848 = .ok (.ifCond .eq 5, 3) := by decide +kernel
theorem dL_law_2851 : decode cL_law 2851 = .ok (.iconst 0, 1) := by decide +kernel
theorem dL_law_2852 : decode cL_law 2852 = .ok (.ireturn, 1) := by decide +kernel
theorem dL_law_2853 : decode cL_law 2853 = .ok (.goto 690, 3) := by decide +kernel
theorem dL_law_2856 : decode cL_law 2856 = .ok (.aload_n 1, 1) := by decide +kernel
theorem dL_law_2857 : decode cL_law 2857 = .ok (.aload_n 0, 1) := by decide +kernel
theorem dL_law_2858 : decode cL_law 2858 = .ok (.iload 4, 2) := by decide +kernel
theorem dL_law_2860 : decode cL_law 2860 = .ok (.iconst 1, 1) := by decide +kernel
theorem dL_law_2861 : decode cL_law 2861 = .ok (.iadd, 1) := by decide +kernel
theorem dL_law_2862 : decode cL_law 2862 = .ok (.iaload, 1) := by decide +kernel
theorem dL_law_2863 : decode cL_law 2863 = .ok (.aload_n 0, 1) := by decide +kernel
theorem dL_law_2864 : decode cL_law 2864 = .ok (.iload 4, 2) := by decide +kernel
theorem dL_law_2866 : decode cL_law 2866 = .ok (.iconst 2, 1) := by decide +kernel
theorem dL_law_2867 : decode cL_law 2867 = .ok (.iadd, 1) := by decide +kernel
theorem dL_law_2868 : decode cL_law 2868 = .ok (.iaload, 1) := by decide +kernel
theorem dL_law_2869 : decode cL_law 2869 = .ok (.aload_n 3, 1) := by decide +kernel
theorem dL_law_2870 : decode cL_law 2870 = .ok (.invokestatic 330, 3) := by decide +kernel
theorem dL_law_2873 : decode cL_law 2873 = .ok (.istore 5, 2) := by decide +kernel
theorem dL_law_2875 : decode cL_law 2875 = .ok (.aload_n 2, 1) := by decide +kernel
theorem dL_law_2876 : decode cL_law 2876 = .ok (.aload_n 0, 1) := by decide +kernel
theorem dL_law_2877 : decode cL_law 2877 = .ok (.iload 4, 2) := by decide +kernel
theorem dL_law_2879 : decode cL_law 2879 = .ok (.iconst 1, 1) := by decide +kernel
theorem dL_law_2880 : decode cL_law 2880 = .ok (.iadd, 1) := by decide +kernel
theorem dL_law_2881 : decode cL_law 2881 = .ok (.iaload, 1) := by decide +kernel
theorem dL_law_2882 : decode cL_law 2882 = .ok (.aload_n 0, 1) := by decide +kernel
theorem dL_law_2883 : decode cL_law 2883 = .ok (.iload 4, 2) := by decide +kernel
theorem dL_law_2885 : decode cL_law 2885 = .ok (.iconst 2, 1) := by decide +kernel
theorem dL_law_2886 : decode cL_law 2886 = .ok (.iadd, 1) := by decide +kernel
theorem dL_law_2887 : decode cL_law 2887 = .ok (.iaload, 1) := by decide +kernel
theorem dL_law_2888 : decode cL_law 2888 = .ok (.invokevirtual 332, 3) := by decide +kernel
theorem dL_law_2891 : decode cL_law 2891 = .ok (.istore 6, 2) := by decide +kernel
theorem dL_law_2893 : decode cL_law 2893 = .ok (.aload_n 2, 1) := by decide +kernel
theorem dL_law_2894 : decode cL_law 2894 = .ok (.invokevirtual 191, 3) := by decide +kernel
theorem dL_law_2897 : decode cL_law 2897 = .ok (.iload 5, 2) := by decide +kernel
theorem dL_law_2899 : decode cL_law 2899 = .ok (.if_icmp .eq 5, 3) := by decide +kernel
theorem dL_law_2902 : decode cL_law 2902 = .ok (.iconst 0, 1) := by decide +kernel
theorem dL_law_2903 : decode cL_law 2903 = .ok (.ireturn, 1) := by decide +kernel
theorem dL_law_2904 : decode cL_law 2904 = .ok (.iload 5, 2) := by decide +kernel
theorem dL_law_2906 : decode cL_law 2906 = .ok (.ifCond .ne 15, 3) := by decide +kernel
theorem dL_law_2909 : decode cL_law 2909 = .ok (.aload_n 3, 1) := by decide +kernel
theorem dL_law_2910 : decode cL_law 2910 = .ok (.iconst 0, 1) := by decide +kernel
theorem dL_law_2911 : decode cL_law 2911 = .ok (.laload, 1) := by decide +kernel
theorem dL_law_2912 : decode cL_law 2912 = .ok (.iload 6, 2) := by decide +kernel
theorem dL_law_2914 : decode cL_law 2914 = .ok (.i2l, 1) := by decide +kernel
theorem dL_law_2915 : decode cL_law 2915 = .ok (.lcmp, 1) := by decide +kernel
theorem dL_law_2916 : decode cL_law 2916 = .ok (.ifCond .eq 5, 3) := by decide +kernel
theorem dL_law_2919 : decode cL_law 2919 = .ok (.iconst 0, 1) := by decide +kernel
theorem dL_law_2920 : decode cL_law 2920 = .ok (.ireturn, 1) := by decide +kernel
theorem dL_law_2921 : decode cL_law 2921 = .ok (.goto 622, 3) := by decide +kernel
theorem dL_law_2924 : decode cL_law 2924 = .ok (.aload_n 1, 1) := by decide +kernel
theorem dL_law_2925 : decode cL_law 2925 = .ok (.aload_n 0, 1) := by decide +kernel
theorem dL_law_2926 : decode cL_law 2926 = .ok (.iload 4, 2) := by decide +kernel
theorem dL_law_2928 : decode cL_law 2928 = .ok (.iconst 1, 1) := by decide +kernel
theorem dL_law_2929 : decode cL_law 2929 = .ok (.iadd, 1) := by decide +kernel
theorem dL_law_2930 : decode cL_law 2930 = .ok (.iaload, 1) := by decide +kernel
theorem dL_law_2931 : decode cL_law 2931 = .ok (.aload_n 0, 1) := by decide +kernel
theorem dL_law_2932 : decode cL_law 2932 = .ok (.iload 4, 2) := by decide +kernel
theorem dL_law_2934 : decode cL_law 2934 = .ok (.iconst 2, 1) := by decide +kernel
theorem dL_law_2935 : decode cL_law 2935 = .ok (.iadd, 1) := by decide +kernel
theorem dL_law_2936 : decode cL_law 2936 = .ok (.iaload, 1) := by decide +kernel
theorem dL_law_2937 : decode cL_law 2937 = .ok (.aload_n 0, 1) := by decide +kernel
theorem dL_law_2938 : decode cL_law 2938 = .ok (.iload 4, 2) := by decide +kernel
theorem dL_law_2940 : decode cL_law 2940 = .ok (.iconst 3, 1) := by decide +kernel
theorem dL_law_2941 : decode cL_law 2941 = .ok (.iadd, 1) := by decide +kernel
theorem dL_law_2942 : decode cL_law 2942 = .ok (.iaload, 1) := by decide +kernel
theorem dL_law_2943 : decode cL_law 2943 = .ok (.aload_n 3, 1) := by decide +kernel
theorem dL_law_2944 : decode cL_law 2944 = .ok (.invokestatic 333, 3) := by decide +kernel
theorem dL_law_2947 : decode cL_law 2947 = .ok (.istore 5, 2) := by decide +kernel
theorem dL_law_2949 : decode cL_law 2949 = .ok (.aload_n 2, 1) := by decide +kernel
theorem dL_law_2950 : decode cL_law 2950 = .ok (.aload_n 0, 1) := by decide +kernel
theorem dL_law_2951 : decode cL_law 2951 = .ok (.iload 4, 2) := by decide +kernel
theorem dL_law_2953 : decode cL_law 2953 = .ok (.iconst 1, 1) := by decide +kernel
theorem dL_law_2954 : decode cL_law 2954 = .ok (.iadd, 1) := by decide +kernel
theorem dL_law_2955 : decode cL_law 2955 = .ok (.iaload, 1) := by decide +kernel
theorem dL_law_2956 : decode cL_law 2956 = .ok (.aload_n 0, 1) := by decide +kernel
theorem dL_law_2957 : decode cL_law 2957 = .ok (.iload 4, 2) := by decide +kernel
theorem dL_law_2959 : decode cL_law 2959 = .ok (.iconst 2, 1) := by decide +kernel
theorem dL_law_2960 : decode cL_law 2960 = .ok (.iadd, 1) := by decide +kernel
theorem dL_law_2961 : decode cL_law 2961 = .ok (.iaload, 1) := by decide +kernel
theorem dL_law_2962 : decode cL_law 2962 = .ok (.aload_n 0, 1) := by decide +kernel
theorem dL_law_2963 : decode cL_law 2963 = .ok (.iload 4, 2) := by decide +kernel
theorem dL_law_2965 : decode cL_law 2965 = .ok (.iconst 3, 1) := by decide +kernel
theorem dL_law_2966 : decode cL_law 2966 = .ok (.iadd, 1) := by decide +kernel
theorem dL_law_2967 : decode cL_law 2967 = .ok (.iaload, 1) := by decide +kernel
theorem dL_law_2968 : decode cL_law 2968 = .ok (.invokevirtual 335, 3) := by decide +kernel
theorem dL_law_2971 : decode cL_law 2971 = .ok (.istore 6, 2) := by decide +kernel
theorem dL_law_2973 : decode cL_law 2973 = .ok (.aload_n 2, 1) := by decide +kernel
theorem dL_law_2974 : decode cL_law 2974 = .ok (.invokevirtual 191, 3) := by decide +kernel
theorem dL_law_2977 : decode cL_law 2977 = .ok (.iload 5, 2) := by decide +kernel
theorem dL_law_2979 : decode cL_law 2979 = .ok (.if_icmp .eq 5, 3) := by decide +kernel
theorem dL_law_2982 : decode cL_law 2982 = .ok (.iconst 0, 1) := by decide +kernel
theorem dL_law_2983 : decode cL_law 2983 = .ok (.ireturn, 1) := by decide +kernel
theorem dL_law_2984 : decode cL_law 2984 = .ok (.iload 5, 2) := by decide +kernel
theorem dL_law_2986 : decode cL_law 2986 = .ok (.ifCond .ne 15, 3) := by decide +kernel
theorem dL_law_2989 : decode cL_law 2989 = .ok (.aload_n 3, 1) := by decide +kernel
theorem dL_law_2990 : decode cL_law 2990 = .ok (.iconst 0, 1) := by decide +kernel
theorem dL_law_2991 : decode cL_law 2991 = .ok (.laload, 1) := by decide +kernel
theorem dL_law_2992 : decode cL_law 2992 = .ok (.iload 6, 2) := by decide +kernel
theorem dL_law_2994 : decode cL_law 2994 = .ok (.i2l, 1) := by decide +kernel
theorem dL_law_2995 : decode cL_law 2995 = .ok (.lcmp, 1) := by decide +kernel
theorem dL_law_2996 : decode cL_law 2996 = .ok (.ifCond .eq 5, 3) := by decide +kernel
theorem dL_law_2999 : decode cL_law 2999 = .ok (.iconst 0, 1) := by decide +kernel
theorem dL_law_3000 : decode cL_law 3000 = .ok (.ireturn, 1) := by decide +kernel
theorem dL_law_3001 : decode cL_law 3001 = .ok (.goto 542, 3) := by decide +kernel
theorem dL_law_3004 : decode cL_law 3004 = .ok (.aload_n 1, 1) := by decide +kernel
theorem dL_law_3005 : decode cL_law 3005 = .ok (.aload_n 0, 1) := by decide +kernel
theorem dL_law_3006 : decode cL_law 3006 = .ok (.iload 4, 2) := by decide +kernel
theorem dL_law_3008 : decode cL_law 3008 = .ok (.iconst 1, 1) := by decide +kernel
theorem dL_law_3009 : decode cL_law 3009 = .ok (.iadd, 1) := by decide +kernel
theorem dL_law_3010 : decode cL_law 3010 = .ok (.iaload, 1) := by decide +kernel
theorem dL_law_3011 : decode cL_law 3011 = .ok (.aload_n 0, 1) := by decide +kernel
theorem dL_law_3012 : decode cL_law 3012 = .ok (.iload 4, 2) := by decide +kernel
theorem dL_law_3014 : decode cL_law 3014 = .ok (.iconst 2, 1) := by decide +kernel
theorem dL_law_3015 : decode cL_law 3015 = .ok (.iadd, 1) := by decide +kernel
theorem dL_law_3016 : decode cL_law 3016 = .ok (.iaload, 1) := by decide +kernel
theorem dL_law_3017 : decode cL_law 3017 = .ok (.invokevirtual 336, 3) := by decide +kernel
theorem dL_law_3020 : decode cL_law 3020 = .ok (.aload_n 2, 1) := by decide +kernel
theorem dL_law_3021 : decode cL_law 3021 = .ok (.aload_n 0, 1) := by decide +kernel
theorem dL_law_3022 : decode cL_law 3022 = .ok (.iload 4, 2) := by decide +kernel
theorem dL_law_3024 : decode cL_law 3024 = .ok (.iconst 1, 1) := by decide +kernel
theorem dL_law_3025 : decode cL_law 3025 = .ok (.iadd, 1) := by decide +kernel
theorem dL_law_3026 : decode cL_law 3026 = .ok (.iaload, 1) := by decide +kernel
theorem dL_law_3027 : decode cL_law 3027 = .ok (.aload_n 0, 1) := by decide +kernel
theorem dL_law_3028 : decode cL_law 3028 = .ok (.iload 4, 2) := by decide +kernel
theorem dL_law_3030 : decode cL_law 3030 = .ok (.iconst 2, 1) := by decide +kernel
theorem dL_law_3031 : decode cL_law 3031 = .ok (.iadd, 1) := by decide +kernel
theorem dL_law_3032 : decode cL_law 3032 = .ok (.iaload, 1) := by decide +kernel
theorem dL_law_3033 : decode cL_law 3033 = .ok (.invokevirtual 339, 3) := by decide +kernel
theorem dL_law_3036 : decode cL_law 3036 = .ok (.if_icmp .eq 507, 3) := by decide +kernel
theorem dL_law_3039 : decode cL_law 3039 = .ok (.iconst 0, 1) := by decide +kernel
theorem dL_law_3040 : decode cL_law 3040 = .ok (.ireturn, 1) := by decide +kernel
theorem dL_law_3041 : decode cL_law 3041 = .ok (.aload_n 1, 1) := by decide +kernel
theorem dL_law_3042 : decode cL_law 3042 = .ok (.aload_n 0, 1) := by decide +kernel
theorem dL_law_3043 : decode cL_law 3043 = .ok (.iload 4, 2) := by decide +kernel
theorem dL_law_3045 : decode cL_law 3045 = .ok (.iconst 1, 1) := by decide +kernel
theorem dL_law_3046 : decode cL_law 3046 = .ok (.iadd, 1) := by decide +kernel
theorem dL_law_3047 : decode cL_law 3047 = .ok (.iaload, 1) := by decide +kernel
theorem dL_law_3048 : decode cL_law 3048 = .ok (.aload_n 3, 1) := by decide +kernel
theorem dL_law_3049 : decode cL_law 3049 = .ok (.invokestatic 340, 3) := by decide +kernel
theorem dL_law_3052 : decode cL_law 3052 = .ok (.istore 5, 2) := by decide +kernel
theorem dL_law_3054 : decode cL_law 3054 = .ok (.aload_n 2, 1) := by decide +kernel
theorem dL_law_3055 : decode cL_law 3055 = .ok (.aload_n 0, 1) := by decide +kernel
theorem dL_law_3056 : decode cL_law 3056 = .ok (.iload 4, 2) := by decide +kernel
theorem dL_law_3058 : decode cL_law 3058 = .ok (.iconst 1, 1) := by decide +kernel
theorem dL_law_3059 : decode cL_law 3059 = .ok (.iadd, 1) := by decide +kernel
theorem dL_law_3060 : decode cL_law 3060 = .ok (.iaload, 1) := by decide +kernel
theorem dL_law_3061 : decode cL_law 3061 = .ok (.invokevirtual 342, 3) := by decide +kernel
theorem dL_law_3064 : decode cL_law 3064 = .ok (.istore 6, 2) := by decide +kernel
theorem dL_law_3066 : decode cL_law 3066 = .ok (.aload_n 2, 1) := by decide +kernel
theorem dL_law_3067 : decode cL_law 3067 = .ok (.invokevirtual 191, 3) := by decide +kernel
theorem dL_law_3070 : decode cL_law 3070 = .ok (.iload 5, 2) := by decide +kernel
theorem dL_law_3072 : decode cL_law 3072 = .ok (.if_icmp .eq 5, 3) := by decide +kernel
theorem dL_law_3075 : decode cL_law 3075 = .ok (.iconst 0, 1) := by decide +kernel
theorem dL_law_3076 : decode cL_law 3076 = .ok (.ireturn, 1) := by decide +kernel
theorem dL_law_3077 : decode cL_law 3077 = .ok (.iload 5, 2) := by decide +kernel
theorem dL_law_3079 : decode cL_law 3079 = .ok (.ifCond .ne 15, 3) := by decide +kernel
theorem dL_law_3082 : decode cL_law 3082 = .ok (.aload_n 3, 1) := by decide +kernel
theorem dL_law_3083 : decode cL_law 3083 = .ok (.iconst 0, 1) := by decide +kernel
theorem dL_law_3084 : decode cL_law 3084 = .ok (.laload, 1) := by decide +kernel
theorem dL_law_3085 : decode cL_law 3085 = .ok (.iload 6, 2) := by decide +kernel
theorem dL_law_3087 : decode cL_law 3087 = .ok (.i2l, 1) := by decide +kernel
theorem dL_law_3088 : decode cL_law 3088 = .ok (.lcmp, 1) := by decide +kernel
theorem dL_law_3089 : decode cL_law 3089 = .ok (.ifCond .eq 5, 3) := by decide +kernel
theorem dL_law_3092 : decode cL_law 3092 = .ok (.iconst 0, 1) := by decide +kernel
theorem dL_law_3093 : decode cL_law 3093 = .ok (.ireturn, 1) := by decide +kernel
theorem dL_law_3094 : decode cL_law 3094 = .ok (.goto 449, 3) := by decide +kernel
theorem dL_law_3097 : decode cL_law 3097 = .ok (.aload_n 1, 1) := by decide +kernel
theorem dL_law_3098 : decode cL_law 3098 = .ok (.invokevirtual 343, 3) := by decide +kernel
theorem dL_law_3101 : decode cL_law 3101 = .ok (.aload_n 2, 1) := by decide +kernel
theorem dL_law_3102 : decode cL_law 3102 = .ok (.invokevirtual 346, 3) := by decide +kernel
theorem dL_law_3105 : decode cL_law 3105 = .ok (.if_icmp .eq 438, 3) := by decide +kernel
theorem dL_law_3108 : decode cL_law 3108 = .ok (.iconst 0, 1) := by decide +kernel
theorem dL_law_3109 : decode cL_law 3109 = .ok (.ireturn, 1) := by decide +kernel
theorem dL_law_3110 : decode cL_law 3110 = .ok (.aload_n 1, 1) := by decide +kernel
theorem dL_law_3111 : decode cL_law 3111 = .ok (.invokevirtual 347, 3) := by decide +kernel
theorem dL_law_3114 : decode cL_law 3114 = .ok (.aload_n 2, 1) := by decide +kernel
theorem dL_law_3115 : decode cL_law 3115 = .ok (.invokevirtual 350, 3) := by decide +kernel
theorem dL_law_3118 : decode cL_law 3118 = .ok (.if_icmp .eq 425, 3) := by decide +kernel
theorem dL_law_3121 : decode cL_law 3121 = .ok (.iconst 0, 1) := by decide +kernel
theorem dL_law_3122 : decode cL_law 3122 = .ok (.ireturn, 1) := by decide +kernel
theorem dL_law_3123 : decode cL_law 3123 = .ok (.aload_n 1, 1) := by decide +kernel
theorem dL_law_3124 : decode cL_law 3124 = .ok (.aload_n 0, 1) := by decide +kernel
theorem dL_law_3125 : decode cL_law 3125 = .ok (.iload 4, 2) := by decide +kernel
theorem dL_law_3127 : decode cL_law 3127 = .ok (.iconst 1, 1) := by decide +kernel
theorem dL_law_3128 : decode cL_law 3128 = .ok (.iadd, 1) := by decide +kernel
theorem dL_law_3129 : decode cL_law 3129 = .ok (.iaload, 1) := by decide +kernel
theorem dL_law_3130 : decode cL_law 3130 = .ok (.aload_n 0, 1) := by decide +kernel
theorem dL_law_3131 : decode cL_law 3131 = .ok (.iload 4, 2) := by decide +kernel
theorem dL_law_3133 : decode cL_law 3133 = .ok (.iconst 2, 1) := by decide +kernel
theorem dL_law_3134 : decode cL_law 3134 = .ok (.iadd, 1) := by decide +kernel
theorem dL_law_3135 : decode cL_law 3135 = .ok (.iaload, 1) := by decide +kernel
theorem dL_law_3136 : decode cL_law 3136 = .ok (.aload_n 0, 1) := by decide +kernel
theorem dL_law_3137 : decode cL_law 3137 = .ok (.iload 4, 2) := by decide +kernel
theorem dL_law_3139 : decode cL_law 3139 = .ok (.iconst 3, 1) := by decide +kernel
theorem dL_law_3140 : decode cL_law 3140 = .ok (.iadd, 1) := by decide +kernel
theorem dL_law_3141 : decode cL_law 3141 = .ok (.iaload, 1) := by decide +kernel
theorem dL_law_3142 : decode cL_law 3142 = .ok (.aload_n 3, 1) := by decide +kernel
theorem dL_law_3143 : decode cL_law 3143 = .ok (.invokestatic 351, 3) := by decide +kernel
theorem dL_law_3146 : decode cL_law 3146 = .ok (.istore 5, 2) := by decide +kernel
theorem dL_law_3148 : decode cL_law 3148 = .ok (.aload_n 2, 1) := by decide +kernel
theorem dL_law_3149 : decode cL_law 3149 = .ok (.aload_n 0, 1) := by decide +kernel
theorem dL_law_3150 : decode cL_law 3150 = .ok (.iload 4, 2) := by decide +kernel
theorem dL_law_3152 : decode cL_law 3152 = .ok (.iconst 1, 1) := by decide +kernel
theorem dL_law_3153 : decode cL_law 3153 = .ok (.iadd, 1) := by decide +kernel
theorem dL_law_3154 : decode cL_law 3154 = .ok (.iaload, 1) := by decide +kernel
theorem dL_law_3155 : decode cL_law 3155 = .ok (.aload_n 0, 1) := by decide +kernel
theorem dL_law_3156 : decode cL_law 3156 = .ok (.iload 4, 2) := by decide +kernel
theorem dL_law_3158 : decode cL_law 3158 = .ok (.iconst 2, 1) := by decide +kernel
theorem dL_law_3159 : decode cL_law 3159 = .ok (.iadd, 1) := by decide +kernel
theorem dL_law_3160 : decode cL_law 3160 = .ok (.iaload, 1) := by decide +kernel
theorem dL_law_3161 : decode cL_law 3161 = .ok (.aload_n 0, 1) := by decide +kernel
theorem dL_law_3162 : decode cL_law 3162 = .ok (.iload 4, 2) := by decide +kernel
theorem dL_law_3164 : decode cL_law 3164 = .ok (.iconst 3, 1) := by decide +kernel
theorem dL_law_3165 : decode cL_law 3165 = .ok (.iadd, 1) := by decide +kernel
theorem dL_law_3166 : decode cL_law 3166 = .ok (.iaload, 1) := by decide +kernel
theorem dL_law_3167 : decode cL_law 3167 = .ok (.invokevirtual 353, 3) := by decide +kernel
theorem dL_law_3170 : decode cL_law 3170 = .ok (.istore 6, 2) := by decide +kernel
theorem dL_law_3172 : decode cL_law 3172 = .ok (.aload_n 2, 1) := by decide +kernel
theorem dL_law_3173 : decode cL_law 3173 = .ok (.invokevirtual 191, 3) := by decide +kernel
theorem dL_law_3176 : decode cL_law 3176 = .ok (.iload 5, 2) := by decide +kernel
theorem dL_law_3178 : decode cL_law 3178 = .ok (.if_icmp .eq 5, 3) := by decide +kernel
theorem dL_law_3181 : decode cL_law 3181 = .ok (.iconst 0, 1) := by decide +kernel
theorem dL_law_3182 : decode cL_law 3182 = .ok (.ireturn, 1) := by decide +kernel
theorem dL_law_3183 : decode cL_law 3183 = .ok (.iload 5, 2) := by decide +kernel
theorem dL_law_3185 : decode cL_law 3185 = .ok (.ifCond .ne 15, 3) := by decide +kernel
theorem dL_law_3188 : decode cL_law 3188 = .ok (.aload_n 3, 1) := by decide +kernel
theorem dL_law_3189 : decode cL_law 3189 = .ok (.iconst 0, 1) := by decide +kernel
theorem dL_law_3190 : decode cL_law 3190 = .ok (.laload, 1) := by decide +kernel
theorem dL_law_3191 : decode cL_law 3191 = .ok (.iload 6, 2) := by decide +kernel
theorem dL_law_3193 : decode cL_law 3193 = .ok (.i2l, 1) := by decide +kernel
theorem dL_law_3194 : decode cL_law 3194 = .ok (.lcmp, 1) := by decide +kernel
theorem dL_law_3195 : decode cL_law 3195 = .ok (.ifCond .eq 5, 3) := by decide +kernel
theorem dL_law_3198 : decode cL_law 3198 = .ok (.iconst 0, 1) := by decide +kernel
theorem dL_law_3199 : decode cL_law 3199 = .ok (.ireturn, 1) := by decide +kernel
theorem dL_law_3200 : decode cL_law 3200 = .ok (.goto 343, 3) := by decide +kernel
theorem dL_law_3203 : decode cL_law 3203 = .ok (.aload_n 1, 1) := by decide +kernel
theorem dL_law_3204 : decode cL_law 3204 = .ok (.aload_n 0, 1) := by decide +kernel
theorem dL_law_3205 : decode cL_law 3205 = .ok (.iload 4, 2) := by decide +kernel
theorem dL_law_3207 : decode cL_law 3207 = .ok (.iconst 1, 1) := by decide +kernel
theorem dL_law_3208 : decode cL_law 3208 = .ok (.iadd, 1) := by decide +kernel
theorem dL_law_3209 : decode cL_law 3209 = .ok (.iaload, 1) := by decide +kernel
theorem dL_law_3210 : decode cL_law 3210 = .ok (.aload_n 0, 1) := by decide +kernel
theorem dL_law_3211 : decode cL_law 3211 = .ok (.iload 4, 2) := by decide +kernel
theorem dL_law_3213 : decode cL_law 3213 = .ok (.iconst 2, 1) := by decide +kernel
theorem dL_law_3214 : decode cL_law 3214 = .ok (.iadd, 1) := by decide +kernel
theorem dL_law_3215 : decode cL_law 3215 = .ok (.iaload, 1) := by decide +kernel
theorem dL_law_3216 : decode cL_law 3216 = .ok (.aload_n 0, 1) := by decide +kernel
theorem dL_law_3217 : decode cL_law 3217 = .ok (.iload 4, 2) := by decide +kernel
theorem dL_law_3219 : decode cL_law 3219 = .ok (.iconst 3, 1) := by decide +kernel
theorem dL_law_3220 : decode cL_law 3220 = .ok (.iadd, 1) := by decide +kernel
theorem dL_law_3221 : decode cL_law 3221 = .ok (.iaload, 1) := by decide +kernel
theorem dL_law_3222 : decode cL_law 3222 = .ok (.aload_n 3, 1) := by decide +kernel
theorem dL_law_3223 : decode cL_law 3223 = .ok (.invokestatic 354, 3) := by decide +kernel
theorem dL_law_3226 : decode cL_law 3226 = .ok (.istore 5, 2) := by decide +kernel
theorem dL_law_3228 : decode cL_law 3228 = .ok (.aload_n 2, 1) := by decide +kernel
theorem dL_law_3229 : decode cL_law 3229 = .ok (.aload_n 0, 1) := by decide +kernel
theorem dL_law_3230 : decode cL_law 3230 = .ok (.iload 4, 2) := by decide +kernel
theorem dL_law_3232 : decode cL_law 3232 = .ok (.iconst 1, 1) := by decide +kernel
theorem dL_law_3233 : decode cL_law 3233 = .ok (.iadd, 1) := by decide +kernel
theorem dL_law_3234 : decode cL_law 3234 = .ok (.iaload, 1) := by decide +kernel
theorem dL_law_3235 : decode cL_law 3235 = .ok (.aload_n 0, 1) := by decide +kernel
theorem dL_law_3236 : decode cL_law 3236 = .ok (.iload 4, 2) := by decide +kernel
theorem dL_law_3238 : decode cL_law 3238 = .ok (.iconst 2, 1) := by decide +kernel
theorem dL_law_3239 : decode cL_law 3239 = .ok (.iadd, 1) := by decide +kernel
theorem dL_law_3240 : decode cL_law 3240 = .ok (.iaload, 1) := by decide +kernel
theorem dL_law_3241 : decode cL_law 3241 = .ok (.aload_n 0, 1) := by decide +kernel
theorem dL_law_3242 : decode cL_law 3242 = .ok (.iload 4, 2) := by decide +kernel
theorem dL_law_3244 : decode cL_law 3244 = .ok (.iconst 3, 1) := by decide +kernel
theorem dL_law_3245 : decode cL_law 3245 = .ok (.iadd, 1) := by decide +kernel
theorem dL_law_3246 : decode cL_law 3246 = .ok (.iaload, 1) := by decide +kernel
theorem dL_law_3247 : decode cL_law 3247 = .ok (.invokevirtual 356, 3) := by decide +kernel
theorem dL_law_3250 : decode cL_law 3250 = .ok (.istore 6, 2) := by decide +kernel
theorem dL_law_3252 : decode cL_law 3252 = .ok (.aload_n 2, 1) := by decide +kernel
theorem dL_law_3253 : decode cL_law 3253 = .ok (.invokevirtual 191, 3) := by decide +kernel
theorem dL_law_3256 : decode cL_law 3256 = .ok (.iload 5, 2) := by decide +kernel
theorem dL_law_3258 : decode cL_law 3258 = .ok (.if_icmp .eq 5, 3) := by decide +kernel
theorem dL_law_3261 : decode cL_law 3261 = .ok (.iconst 0, 1) := by decide +kernel
theorem dL_law_3262 : decode cL_law 3262 = .ok (.ireturn, 1) := by decide +kernel
theorem dL_law_3263 : decode cL_law 3263 = .ok (.iload 5, 2) := by decide +kernel
theorem dL_law_3265 : decode cL_law 3265 = .ok (.ifCond .ne 15, 3) := by decide +kernel
theorem dL_law_3268 : decode cL_law 3268 = .ok (.aload_n 3, 1) := by decide +kernel
theorem dL_law_3269 : decode cL_law 3269 = .ok (.iconst 0, 1) := by decide +kernel
theorem dL_law_3270 : decode cL_law 3270 = .ok (.laload, 1) := by decide +kernel
theorem dL_law_3271 : decode cL_law 3271 = .ok (.iload 6, 2) := by decide +kernel
theorem dL_law_3273 : decode cL_law 3273 = .ok (.i2l, 1) := by decide +kernel
theorem dL_law_3274 : decode cL_law 3274 = .ok (.lcmp, 1) := by decide +kernel
theorem dL_law_3275 : decode cL_law 3275 = .ok (.ifCond .eq 5, 3) := by decide +kernel
theorem dL_law_3278 : decode cL_law 3278 = .ok (.iconst 0, 1) := by decide +kernel
theorem dL_law_3279 : decode cL_law 3279 = .ok (.ireturn, 1) := by decide +kernel
theorem dL_law_3280 : decode cL_law 3280 = .ok (.goto 263, 3) := by decide +kernel
theorem dL_law_3283 : decode cL_law 3283 = .ok (.aload_n 1, 1) := by decide +kernel
theorem dL_law_3284 : decode cL_law 3284 = .ok (.aload_n 0, 1) := by decide +kernel
theorem dL_law_3285 : decode cL_law 3285 = .ok (.iload 4, 2) := by decide +kernel
theorem dL_law_3287 : decode cL_law 3287 = .ok (.iconst 1, 1) := by decide +kernel
theorem dL_law_3288 : decode cL_law 3288 = .ok (.iadd, 1) := by decide +kernel
theorem dL_law_3289 : decode cL_law 3289 = .ok (.iaload, 1) := by decide +kernel
theorem dL_law_3290 : decode cL_law 3290 = .ok (.aload_n 0, 1) := by decide +kernel
theorem dL_law_3291 : decode cL_law 3291 = .ok (.iload 4, 2) := by decide +kernel
theorem dL_law_3293 : decode cL_law 3293 = .ok (.iconst 2, 1) := by decide +kernel
theorem dL_law_3294 : decode cL_law 3294 = .ok (.iadd, 1) := by decide +kernel
theorem dL_law_3295 : decode cL_law 3295 = .ok (.iaload, 1) := by decide +kernel
theorem dL_law_3296 : decode cL_law 3296 = .ok (.aload_n 3, 1) := by decide +kernel
theorem dL_law_3297 : decode cL_law 3297 = .ok (.invokestatic 357, 3) := by decide +kernel
theorem dL_law_3300 : decode cL_law 3300 = .ok (.istore 5, 2) := by decide +kernel
theorem dL_law_3302 : decode cL_law 3302 = .ok (.aload_n 2, 1) := by decide +kernel
theorem dL_law_3303 : decode cL_law 3303 = .ok (.aload_n 0, 1) := by decide +kernel
theorem dL_law_3304 : decode cL_law 3304 = .ok (.iload 4, 2) := by decide +kernel
theorem dL_law_3306 : decode cL_law 3306 = .ok (.iconst 1, 1) := by decide +kernel
theorem dL_law_3307 : decode cL_law 3307 = .ok (.iadd, 1) := by decide +kernel
theorem dL_law_3308 : decode cL_law 3308 = .ok (.iaload, 1) := by decide +kernel
theorem dL_law_3309 : decode cL_law 3309 = .ok (.aload_n 0, 1) := by decide +kernel
theorem dL_law_3310 : decode cL_law 3310 = .ok (.iload 4, 2) := by decide +kernel
theorem dL_law_3312 : decode cL_law 3312 = .ok (.iconst 2, 1) := by decide +kernel
theorem dL_law_3313 : decode cL_law 3313 = .ok (.iadd, 1) := by decide +kernel
theorem dL_law_3314 : decode cL_law 3314 = .ok (.iaload, 1) := by decide +kernel
theorem dL_law_3315 : decode cL_law 3315 = .ok (.invokevirtual 359, 3) := by decide +kernel
theorem dL_law_3318 : decode cL_law 3318 = .ok (.istore 6, 2) := by decide +kernel
theorem dL_law_3320 : decode cL_law 3320 = .ok (.aload_n 2, 1) := by decide +kernel
theorem dL_law_3321 : decode cL_law 3321 = .ok (.invokevirtual 191, 3) := by decide +kernel
theorem dL_law_3324 : decode cL_law 3324 = .ok (.iload 5, 2) := by decide +kernel
theorem dL_law_3326 : decode cL_law 3326 = .ok (.if_icmp .eq 5, 3) := by decide +kernel
theorem dL_law_3329 : decode cL_law 3329 = .ok (.iconst 0, 1) := by decide +kernel
theorem dL_law_3330 : decode cL_law 3330 = .ok (.ireturn, 1) := by decide +kernel
theorem dL_law_3331 : decode cL_law 3331 = .ok (.iload 5, 2) := by decide +kernel
theorem dL_law_3333 : decode cL_law 3333 = .ok (.ifCond .ne 15, 3) := by decide +kernel
theorem dL_law_3336 : decode cL_law 3336 = .ok (.aload_n 3, 1) := by decide +kernel
theorem dL_law_3337 : decode cL_law 3337 = .ok (.iconst 0, 1) := by decide +kernel
theorem dL_law_3338 : decode cL_law 3338 = .ok (.laload, 1) := by decide +kernel
theorem dL_law_3339 : decode cL_law 3339 = .ok (.iload 6, 2) := by decide +kernel
theorem dL_law_3341 : decode cL_law 3341 = .ok (.i2l, 1) := by decide +kernel
theorem dL_law_3342 : decode cL_law 3342 = .ok (.lcmp, 1) := by decide +kernel
theorem dL_law_3343 : decode cL_law 3343 = .ok (.ifCond .eq 5, 3) := by decide +kernel
theorem dL_law_3346 : decode cL_law 3346 = .ok (.iconst 0, 1) := by decide +kernel
theorem dL_law_3347 : decode cL_law 3347 = .ok (.ireturn, 1) := by decide +kernel
theorem dL_law_3348 : decode cL_law 3348 = .ok (.goto 195, 3) := by decide +kernel
theorem dL_law_3351 : decode cL_law 3351 = .ok (.aload_n 1, 1) := by decide +kernel
theorem dL_law_3352 : decode cL_law 3352 = .ok (.aload_n 0, 1) := by decide +kernel
theorem dL_law_3353 : decode cL_law 3353 = .ok (.iload 4, 2) := by decide +kernel
theorem dL_law_3355 : decode cL_law 3355 = .ok (.iconst 1, 1) := by decide +kernel
theorem dL_law_3356 : decode cL_law 3356 = .ok (.iadd, 1) := by decide +kernel
theorem dL_law_3357 : decode cL_law 3357 = .ok (.iaload, 1) := by decide +kernel
theorem dL_law_3358 : decode cL_law 3358 = .ok (.aload_n 0, 1) := by decide +kernel
theorem dL_law_3359 : decode cL_law 3359 = .ok (.iload 4, 2) := by decide +kernel
theorem dL_law_3361 : decode cL_law 3361 = .ok (.iconst 2, 1) := by decide +kernel
theorem dL_law_3362 : decode cL_law 3362 = .ok (.iadd, 1) := by decide +kernel
theorem dL_law_3363 : decode cL_law 3363 = .ok (.iaload, 1) := by decide +kernel
theorem dL_law_3364 : decode cL_law 3364 = .ok (.aload_n 3, 1) := by decide +kernel
theorem dL_law_3365 : decode cL_law 3365 = .ok (.invokestatic 360, 3) := by decide +kernel
theorem dL_law_3368 : decode cL_law 3368 = .ok (.istore 5, 2) := by decide +kernel
theorem dL_law_3370 : decode cL_law 3370 = .ok (.aload_n 2, 1) := by decide +kernel
theorem dL_law_3371 : decode cL_law 3371 = .ok (.aload_n 0, 1) := by decide +kernel
theorem dL_law_3372 : decode cL_law 3372 = .ok (.iload 4, 2) := by decide +kernel
theorem dL_law_3374 : decode cL_law 3374 = .ok (.iconst 1, 1) := by decide +kernel
theorem dL_law_3375 : decode cL_law 3375 = .ok (.iadd, 1) := by decide +kernel
theorem dL_law_3376 : decode cL_law 3376 = .ok (.iaload, 1) := by decide +kernel
theorem dL_law_3377 : decode cL_law 3377 = .ok (.aload_n 0, 1) := by decide +kernel
theorem dL_law_3378 : decode cL_law 3378 = .ok (.iload 4, 2) := by decide +kernel
theorem dL_law_3380 : decode cL_law 3380 = .ok (.iconst 2, 1) := by decide +kernel
theorem dL_law_3381 : decode cL_law 3381 = .ok (.iadd, 1) := by decide +kernel
theorem dL_law_3382 : decode cL_law 3382 = .ok (.iaload, 1) := by decide +kernel
theorem dL_law_3383 : decode cL_law 3383 = .ok (.invokevirtual 362, 3) := by decide +kernel
theorem dL_law_3386 : decode cL_law 3386 = .ok (.istore 6, 2) := by decide +kernel
theorem dL_law_3388 : decode cL_law 3388 = .ok (.aload_n 2, 1) := by decide +kernel
theorem dL_law_3389 : decode cL_law 3389 = .ok (.invokevirtual 191, 3) := by decide +kernel
theorem dL_law_3392 : decode cL_law 3392 = .ok (.iload 5, 2) := by decide +kernel
theorem dL_law_3394 : decode cL_law 3394 = .ok (.if_icmp .eq 5, 3) := by decide +kernel
theorem dL_law_3397 : decode cL_law 3397 = .ok (.iconst 0, 1) := by decide +kernel
theorem dL_law_3398 : decode cL_law 3398 = .ok (.ireturn, 1) := by decide +kernel
theorem dL_law_3399 : decode cL_law 3399 = .ok (.iload 5, 2) := by decide +kernel
theorem dL_law_3401 : decode cL_law 3401 = .ok (.ifCond .ne 15, 3) := by decide +kernel
theorem dL_law_3404 : decode cL_law 3404 = .ok (.aload_n 3, 1) := by decide +kernel
theorem dL_law_3405 : decode cL_law 3405 = .ok (.iconst 0, 1) := by decide +kernel
theorem dL_law_3406 : decode cL_law 3406 = .ok (.laload, 1) := by decide +kernel
theorem dL_law_3407 : decode cL_law 3407 = .ok (.iload 6, 2) := by decide +kernel
theorem dL_law_3409 : decode cL_law 3409 = .ok (.i2l, 1) := by decide +kernel
theorem dL_law_3410 : decode cL_law 3410 = .ok (.lcmp, 1) := by decide +kernel
theorem dL_law_3411 : decode cL_law 3411 = .ok (.ifCond .eq 5, 3) := by decide +kernel
theorem dL_law_3414 : decode cL_law 3414 = .ok (.iconst 0, 1) := by decide +kernel
theorem dL_law_3415 : decode cL_law 3415 = .ok (.ireturn, 1) := by decide +kernel
theorem dL_law_3416 : decode cL_law 3416 = .ok (.goto 127, 3) := by decide +kernel
theorem dL_law_3419 : decode cL_law 3419 = .ok (.aload_n 1, 1) := by decide +kernel
theorem dL_law_3420 : decode cL_law 3420 = .ok (.aload_n 0, 1) := by decide +kernel
theorem dL_law_3421 : decode cL_law 3421 = .ok (.iload 4, 2) := by decide +kernel
theorem dL_law_3423 : decode cL_law 3423 = .ok (.iconst 1, 1) := by decide +kernel
theorem dL_law_3424 : decode cL_law 3424 = .ok (.iadd, 1) := by decide +kernel
theorem dL_law_3425 : decode cL_law 3425 = .ok (.iaload, 1) := by decide +kernel
theorem dL_law_3426 : decode cL_law 3426 = .ok (.aload_n 3, 1) := by decide +kernel
theorem dL_law_3427 : decode cL_law 3427 = .ok (.invokestatic 363, 3) := by decide +kernel
theorem dL_law_3430 : decode cL_law 3430 = .ok (.istore 5, 2) := by decide +kernel
theorem dL_law_3432 : decode cL_law 3432 = .ok (.aload_n 2, 1) := by decide +kernel
theorem dL_law_3433 : decode cL_law 3433 = .ok (.aload_n 0, 1) := by decide +kernel
theorem dL_law_3434 : decode cL_law 3434 = .ok (.iload 4, 2) := by decide +kernel
theorem dL_law_3436 : decode cL_law 3436 = .ok (.iconst 1, 1) := by decide +kernel
theorem dL_law_3437 : decode cL_law 3437 = .ok (.iadd, 1) := by decide +kernel
theorem dL_law_3438 : decode cL_law 3438 = .ok (.iaload, 1) := by decide +kernel
theorem dL_law_3439 : decode cL_law 3439 = .ok (.invokevirtual 365, 3) := by decide +kernel
theorem dL_law_3442 : decode cL_law 3442 = .ok (.istore 6, 2) := by decide +kernel
theorem dL_law_3444 : decode cL_law 3444 = .ok (.aload_n 2, 1) := by decide +kernel
theorem dL_law_3445 : decode cL_law 3445 = .ok (.invokevirtual 191, 3) := by decide +kernel
theorem dL_law_3448 : decode cL_law 3448 = .ok (.iload 5, 2) := by decide +kernel
theorem dL_law_3450 : decode cL_law 3450 = .ok (.if_icmp .eq 5, 3) := by decide +kernel
theorem dL_law_3453 : decode cL_law 3453 = .ok (.iconst 0, 1) := by decide +kernel
theorem dL_law_3454 : decode cL_law 3454 = .ok (.ireturn, 1) := by decide +kernel
theorem dL_law_3455 : decode cL_law 3455 = .ok (.iload 5, 2) := by decide +kernel
theorem dL_law_3457 : decode cL_law 3457 = .ok (.ifCond .ne 15, 3) := by decide +kernel
theorem dL_law_3460 : decode cL_law 3460 = .ok (.aload_n 3, 1) := by decide +kernel
theorem dL_law_3461 : decode cL_law 3461 = .ok (.iconst 0, 1) := by decide +kernel
theorem dL_law_3462 : decode cL_law 3462 = .ok (.laload, 1) := by decide +kernel
theorem dL_law_3463 : decode cL_law 3463 = .ok (.iload 6, 2) := by decide +kernel
theorem dL_law_3465 : decode cL_law 3465 = .ok (.i2l, 1) := by decide +kernel
theorem dL_law_3466 : decode cL_law 3466 = .ok (.lcmp, 1) := by decide +kernel
theorem dL_law_3467 : decode cL_law 3467 = .ok (.ifCond .eq 5, 3) := by decide +kernel
theorem dL_law_3470 : decode cL_law 3470 = .ok (.iconst 0, 1) := by decide +kernel
theorem dL_law_3471 : decode cL_law 3471 = .ok (.ireturn, 1) := by decide +kernel
theorem dL_law_3472 : decode cL_law 3472 = .ok (.goto 71, 3) := by decide +kernel
theorem dL_law_3475 : decode cL_law 3475 = .ok (.aload_n 1, 1) := by decide +kernel
theorem dL_law_3476 : decode cL_law 3476 = .ok (.aload_n 0, 1) := by decide +kernel
theorem dL_law_3477 : decode cL_law 3477 = .ok (.iload 4, 2) := by decide +kernel
theorem dL_law_3479 : decode cL_law 3479 = .ok (.iconst 1, 1) := by decide +kernel
theorem dL_law_3480 : decode cL_law 3480 = .ok (.iadd, 1) := by decide +kernel
theorem dL_law_3481 : decode cL_law 3481 = .ok (.iaload, 1) := by decide +kernel
theorem dL_law_3482 : decode cL_law 3482 = .ok (.aload_n 0, 1) := by decide +kernel
theorem dL_law_3483 : decode cL_law 3483 = .ok (.iload 4, 2) := by decide +kernel
theorem dL_law_3485 : decode cL_law 3485 = .ok (.iconst 2, 1) := by decide +kernel
theorem dL_law_3486 : decode cL_law 3486 = .ok (.iadd, 1) := by decide +kernel
theorem dL_law_3487 : decode cL_law 3487 = .ok (.iaload, 1) := by decide +kernel
theorem dL_law_3488 : decode cL_law 3488 = .ok (.aload_n 3, 1) := by decide +kernel
theorem dL_law_3489 : decode cL_law 3489 = .ok (.invokestatic 366, 3) := by decide +kernel
theorem dL_law_3492 : decode cL_law 3492 = .ok (.istore 5, 2) := by decide +kernel
theorem dL_law_3494 : decode cL_law 3494 = .ok (.aload_n 2, 1) := by decide +kernel
theorem dL_law_3495 : decode cL_law 3495 = .ok (.aload_n 0, 1) := by decide +kernel
theorem dL_law_3496 : decode cL_law 3496 = .ok (.iload 4, 2) := by decide +kernel
theorem dL_law_3498 : decode cL_law 3498 = .ok (.iconst 1, 1) := by decide +kernel
theorem dL_law_3499 : decode cL_law 3499 = .ok (.iadd, 1) := by decide +kernel
theorem dL_law_3500 : decode cL_law 3500 = .ok (.iaload, 1) := by decide +kernel
theorem dL_law_3501 : decode cL_law 3501 = .ok (.aload_n 0, 1) := by decide +kernel
theorem dL_law_3502 : decode cL_law 3502 = .ok (.iload 4, 2) := by decide +kernel
theorem dL_law_3504 : decode cL_law 3504 = .ok (.iconst 2, 1) := by decide +kernel
theorem dL_law_3505 : decode cL_law 3505 = .ok (.iadd, 1) := by decide +kernel
theorem dL_law_3506 : decode cL_law 3506 = .ok (.iaload, 1) := by decide +kernel
theorem dL_law_3507 : decode cL_law 3507 = .ok (.invokevirtual 368, 3) := by decide +kernel
theorem dL_law_3510 : decode cL_law 3510 = .ok (.istore 6, 2) := by decide +kernel
theorem dL_law_3512 : decode cL_law 3512 = .ok (.aload_n 2, 1) := by decide +kernel
theorem dL_law_3513 : decode cL_law 3513 = .ok (.invokevirtual 191, 3) := by decide +kernel
theorem dL_law_3516 : decode cL_law 3516 = .ok (.iload 5, 2) := by decide +kernel
theorem dL_law_3518 : decode cL_law 3518 = .ok (.if_icmp .eq 5, 3) := by decide +kernel
theorem dL_law_3521 : decode cL_law 3521 = .ok (.iconst 0, 1) := by decide +kernel
theorem dL_law_3522 : decode cL_law 3522 = .ok (.ireturn, 1) := by decide +kernel
theorem dL_law_3523 : decode cL_law 3523 = .ok (.iload 5, 2) := by decide +kernel
theorem dL_law_3525 : decode cL_law 3525 = .ok (.ifCond .ne 15, 3) := by decide +kernel
theorem dL_law_3528 : decode cL_law 3528 = .ok (.aload_n 3, 1) := by decide +kernel
theorem dL_law_3529 : decode cL_law 3529 = .ok (.iconst 0, 1) := by decide +kernel
theorem dL_law_3530 : decode cL_law 3530 = .ok (.laload, 1) := by decide +kernel
theorem dL_law_3531 : decode cL_law 3531 = .ok (.iload 6, 2) := by decide +kernel
theorem dL_law_3533 : decode cL_law 3533 = .ok (.i2l, 1) := by decide +kernel
theorem dL_law_3534 : decode cL_law 3534 = .ok (.lcmp, 1) := by decide +kernel
theorem dL_law_3535 : decode cL_law 3535 = .ok (.ifCond .eq 5, 3) := by decide +kernel
theorem dL_law_3538 : decode cL_law 3538 = .ok (.iconst 0, 1) := by decide +kernel
theorem dL_law_3539 : decode cL_law 3539 = .ok (.ireturn, 1) := by decide +kernel
theorem dL_law_3540 : decode cL_law 3540 = .ok (.goto 3, 3) := by decide +kernel
theorem dL_law_3543 : decode cL_law 3543 = .ok (.iinc 4 6, 3) := by decide +kernel
theorem dL_law_3546 : decode cL_law 3546 = .ok (.goto (-3523), 3) := by decide +kernel
theorem dL_law_3549 : decode cL_law 3549 = .ok (.iconst 1, 1) := by decide +kernel
theorem dL_law_3550 : decode cL_law 3550 = .ok (.ireturn, 1) := by decide +kernel
