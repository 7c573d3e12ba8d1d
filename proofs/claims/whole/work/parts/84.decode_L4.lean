theorem dL_law_830 : decode cL_law 830 = .ok (.iload_n 3, 1) := by decide +kernel
theorem dL_law_831 : decode cL_law 831 = .ok (.iconst 1, 1) := by decide +kernel
theorem dL_law_832 : decode cL_law 832 = .ok (.iadd, 1) := by decide +kernel
theorem dL_law_833 : decode cL_law 833 = .ok (.iaload, 1) := by decide +kernel
theorem dL_law_834 : decode cL_law 834 = .ok (.aload_n 0, 1) := by decide +kernel
theorem dL_law_835 : decode cL_law 835 = .ok (.iload_n 3, 1) := by decide +kernel
theorem dL_law_836 : decode cL_law 836 = .ok (.iconst 2, 1) := by decide +kernel
theorem dL_law_837 : decode cL_law 837 = .ok (.iadd, 1) := by decide +kernel
theorem dL_law_838 : decode cL_law 838 = .ok (.iaload, 1) := by decide +kernel
theorem dL_law_839 : decode cL_law 839 = .ok (.aload_n 0, 1) := by decide +kernel
theorem dL_law_840 : decode cL_law 840 = .ok (.iload_n 3, 1) := by decide +kernel
theorem dL_law_841 : decode cL_law 841 = .ok (.iconst 3, 1) := by decide +kernel
theorem dL_law_842 : decode cL_law 842 = .ok (.iadd, 1) := by decide +kernel
theorem dL_law_843 : decode cL_law 843 = .ok (.iaload, 1) := by decide +kernel
theorem dL_law_844 : decode cL_law 844 = .ok (.invokevirtual 98, 3) := by decide +kernel
theorem dL_law_847 : decode cL_law 847 = .ok (.aload_n 2, 1) := by decide +kernel
theorem dL_law_848 : decode cL_law 848 = .ok (.aload_n 0, 1) := by decide +kernel
theorem dL_law_849 : decode cL_law 849 = .ok (.iload_n 3, 1) := by decide +kernel
theorem dL_law_850 : decode cL_law 850 = .ok (.iconst 1, 1) := by decide +kernel
theorem dL_law_851 : decode cL_law 851 = .ok (.iadd, 1) := by decide +kernel
theorem dL_law_852 : decode cL_law 852 = .ok (.iaload, 1) := by decide +kernel
theorem dL_law_853 : decode cL_law 853 = .ok (.aload_n 0, 1) := by decide +kernel
theorem dL_law_854 : decode cL_law 854 = .ok (.iload_n 3, 1) := by decide +kernel
theorem dL_law_855 : decode cL_law 855 = .ok (.iconst 2, 1) := by decide +kernel
theorem dL_law_856 : decode cL_law 856 = .ok (.iadd, 1) := by decide +kernel
theorem dL_law_857 : decode cL_law 857 = .ok (.iaload, 1) := by decide +kernel
theorem dL_law_858 : decode cL_law 858 = .ok (.aload_n 0, 1) := by decide +kernel
theorem dL_law_859 : decode cL_law 859 = .ok (.iload_n 3, 1) := by decide +kernel
theorem dL_law_860 : decode cL_law 860 = .ok (.iconst 3, 1) := by decide +kernel
theorem dL_law_861 : decode cL_law 861 = .ok (.iadd, 1) := by decide +kernel
theorem dL_law_862 : decode cL_law 862 = .ok (.iaload, 1) := by decide +kernel
theorem dL_law_863 : decode cL_law 863 = .ok (.invokevirtual 101, 3) := by decide +kernel
theorem dL_law_866 : decode cL_law 866 = .ok (.if_icmp .eq 475, 3) := by decide +kernel
theorem dL_law_869 : decode cL_law 869 = .ok (.iconst 0, 1) := by decide +kernel
theorem dL_law_870 : decode cL_law 870 = .ok (.ireturn, 1) := by decide +kernel
theorem dL_law_871 : decode cL_law 871 = .ok (.aload_n 1, 1) := by decide +kernel
theorem dL_law_872 : decode cL_law 872 = .ok (.aload_n 0, 1) := by decide +kernel
theorem dL_law_873 : decode cL_law 873 = .ok (.iload_n 3, 1) := by decide +kernel
theorem dL_law_874 : decode cL_law 874 = .ok (.iconst 1, 1) := by decide +kernel
theorem dL_law_875 : decode cL_law 875 = .ok (.iadd, 1) := by decide +kernel
theorem dL_law_876 : decode cL_law 876 = .ok (.iaload, 1) := by decide +kernel
theorem dL_law_877 : decode cL_law 877 = .ok (.aload_n 0, 1) := by decide +kernel
theorem dL_law_878 : decode cL_law 878 = .ok (.iload_n 3, 1) := by decide +kernel
theorem dL_law_879 : decode cL_law 879 = .ok (.iconst 2, 1) := by decide +kernel
theorem dL_law_880 : decode cL_law 880 = .ok (.iadd, 1) := by decide +kernel
theorem dL_law_881 : decode cL_law 881 = .ok (.iaload, 1) := by decide +kernel
theorem dL_law_882 : decode cL_law 882 = .ok (.aload_n 0, 1) := by decide +kernel
theorem dL_law_883 : decode cL_law 883 = .ok (.iload_n 3, 1) := by decide +kernel
theorem dL_law_884 : decode cL_law 884 = .ok (.iconst 3, 1) := by decide +kernel
theorem dL_law_885 : decode cL_law 885 = .ok (.iadd, 1) := by decide +kernel
theorem dL_law_886 : decode cL_law 886 = .ok (.iaload, 1) := by decide +kernel
theorem dL_law_887 : decode cL_law 887 = .ok (.invokevirtual 102, 3) := by decide +kernel
theorem dL_law_890 : decode cL_law 890 = .ok (.aload_n 2, 1) := by decide +kernel
theorem dL_law_891 : decode cL_law 891 = .ok (.aload_n 0, 1) := by decide +kernel
theorem dL_law_892 : decode cL_law 892 = .ok (.iload_n 3, 1) := by decide +kernel
theorem dL_law_893 : decode cL_law 893 = .ok (.iconst 1, 1) := by decide +kernel
theorem dL_law_894 : decode cL_law 894 = .ok (.iadd, 1) := by decide +kernel
theorem dL_law_895 : decode cL_law 895 = .ok (.iaload, 1) := by decide +kernel
theorem dL_law_896 : decode cL_law 896 = .ok (.aload_n 0, 1) := by decide +kernel
theorem dL_law_897 : decode cL_law 897 = .ok (.iload_n 3, 1) := by decide +kernel
theorem dL_law_898 : decode cL_law 898 = .ok (.iconst 2, 1) := by decide +kernel
theorem dL_law_899 : decode cL_law 899 = .ok (.iadd, 1) := by decide +kernel
theorem dL_law_900 : decode cL_law 900 = .ok (.iaload, 1) := by decide +kernel
theorem dL_law_901 : decode cL_law 901 = .ok (.aload_n 0, 1) := by decide +kernel
theorem dL_law_902 : decode cL_law 902 = .ok (.iload_n 3, 1) := by decide +kernel
theorem dL_law_903 : decode cL_law 903 = .ok (.iconst 3, 1) := by decide +kernel
theorem dL_law_904 : decode cL_law 904 = .ok (.iadd, 1) := by decide +kernel
theorem dL_law_905 : decode cL_law 905 = .ok (.iaload, 1) := by decide +kernel
theorem dL_law_906 : decode cL_law 906 = .ok (.invokevirtual 105, 3) := by decide +kernel
theorem dL_law_909 : decode cL_law 909 = .ok (.if_icmp .eq 432, 3) := by decide +kernel
theorem dL_law_912 : decode cL_law 912 = .ok (.iconst 0, 1) := by decide +kernel
theorem dL_law_913 : decode cL_law 913 = .ok (.ireturn, 1) := by decide +kernel
theorem dL_law_914 : decode cL_law 914 = .ok (.aload_n 1, 1) := by decide +kernel
theorem dL_law_915 : decode cL_law 915 = .ok (.invokevirtual 106, 3) := by decide +kernel
theorem dL_law_918 : decode cL_law 918 = .ok (.aload_n 2, 1) := by decide +kernel
theorem dL_law_919 : decode cL_law 919 = .ok (.invokevirtual 109, 3) := by decide +kernel
theorem dL_law_922 : decode cL_law 922 = .ok (.if_icmp .eq 419, 3) := by decide +kernel
theorem dL_law_925 : decode cL_law 925 = .ok (.iconst 0, 1) := by decide +kernel
theorem dL_law_926 : decode cL_law 926 = .ok (.ireturn, 1) := by decide +kernel
theorem dL_law_927 : decode cL_law 927 = .ok (.aload_n 1, 1) := by decide +kernel
theorem dL_law_928 : decode cL_law 928 = .ok (.aload_n 0, 1) := by decide +kernel
theorem dL_law_929 : decode cL_law 929 = .ok (.iload_n 3, 1) := by decide +kernel
theorem dL_law_930 : decode cL_law 930 = .ok (.iconst 1, 1) := by decide +kernel
theorem dL_law_931 : decode cL_law 931 = .ok (.iadd, 1) := by decide +kernel
theorem dL_law_932 : decode cL_law 932 = .ok (.iaload, 1) := by decide +kernel
theorem dL_law_933 : decode cL_law 933 = .ok (.invokevirtual 110, 3) := by decide +kernel
theorem dL_law_936 : decode cL_law 936 = .ok (.aload_n 2, 1) := by decide +kernel
theorem dL_law_937 : decode cL_law 937 = .ok (.aload_n 0, 1) := by decide +kernel
theorem dL_law_938 : decode cL_law 938 = .ok (.iload_n 3, 1) := by decide +kernel
theorem dL_law_939 : decode cL_law 939 = .ok (.iconst 1, 1) := by decide +kernel
theorem dL_law_940 : decode cL_law 940 = .ok (.iadd, 1) := by decide +kernel
theorem dL_law_941 : decode cL_law 941 = .ok (.iaload, 1) := by decide +kernel
theorem dL_law_942 : decode cL_law 942 = .ok (.invokevirtual 113, 3) := by decide +kernel
theorem dL_law_945 : decode cL_law 945 = .ok (.if_icmp .eq 396, 3) := by decide +kernel
theorem dL_law_948 : decode cL_law 948 = .ok (.iconst 0, 1) := by decide +kernel
theorem dL_law_949 : decode cL_law 949 = .ok (.ireturn, 1) := by decide +kernel
theorem dL_law_950 : decode cL_law 950 = .ok (.aload_n 1, 1) := by decide +kernel
theorem dL_law_951 : decode cL_law 951 = .ok (.aload_n 0, 1) := by decide +kernel
theorem dL_law_952 : decode cL_law 952 = .ok (.iload_n 3, 1) := by decide +kernel
theorem dL_law_953 : decode cL_law 953 = .ok (.iconst 1, 1) := by decide +kernel
theorem dL_law_954 : decode cL_law 954 = .ok (.iadd, 1) := by decide +kernel
theorem dL_law_955 : decode cL_law 955 = .ok (.iaload, 1) := by decide +kernel
theorem dL_law_956 : decode cL_law 956 = .ok (.invokevirtual 114, 3) := by decide +kernel
theorem dL_law_959 : decode cL_law 959 = .ok (.aload_n 2, 1) := by decide +kernel
theorem dL_law_960 : decode cL_law 960 = .ok (.aload_n 0, 1) := by decide +kernel
theorem dL_law_961 : decode cL_law 961 = .ok (.iload_n 3, 1) := by decide +kernel
theorem dL_law_962 : decode cL_law 962 = .ok (.iconst 1, 1) := by decide +kernel
theorem dL_law_963 : decode cL_law 963 = .ok (.iadd, 1) := by decide +kernel
theorem dL_law_964 : decode cL_law 964 = .ok (.iaload, 1) := by decide +kernel
theorem dL_law_965 : decode cL_law 965 = .ok (.invokevirtual 117, 3) := by decide +kernel
theorem dL_law_968 : decode cL_law 968 = .ok (.if_icmp .eq 373, 3) := by decide +kernel
theorem dL_law_971 : decode cL_law 971 = .ok (.iconst 0, 1) := by decide +kernel
theorem dL_law_972 : decode cL_law 972 = .ok (.ireturn, 1) := by decide +kernel
theorem dL_law_973 : decode cL_law 973 = .ok (.aload_n 1, 1) := by decide +kernel
theorem dL_law_974 : decode cL_law 974 = .ok (.aload_n 0, 1) := by decide +kernel
theorem dL_law_975 : decode cL_law 975 = .ok (.iload_n 3, 1) := by decide +kernel
theorem dL_law_976 : decode cL_law 976 = .ok (.iconst 1, 1) := by decide +kernel
theorem dL_law_977 : decode cL_law 977 = .ok (.iadd, 1) := by decide +kernel
theorem dL_law_978 : decode cL_law 978 = .ok (.iaload, 1) := by decide +kernel
theorem dL_law_979 : decode cL_law 979 = .ok (.invokevirtual 118, 3) := by decide +kernel
theorem dL_law_982 : decode cL_law 982 = .ok (.aload_n 2, 1) := by decide +kernel
theorem dL_law_983 : decode cL_law 983 = .ok (.aload_n 0, 1) := by decide +kernel
theorem dL_law_984 : decode cL_law 984 = .ok (.iload_n 3, 1) := by decide +kernel
theorem dL_law_985 : decode cL_law 985 = .ok (.iconst 1, 1) := by decide +kernel
theorem dL_law_986 : decode cL_law 986 = .ok (.iadd, 1) := by decide +kernel
theorem dL_law_987 : decode cL_law 987 = .ok (.iaload, 1) := by decide +kernel
theorem dL_law_988 : decode cL_law 988 = .ok (.invokevirtual 121, 3) := by decide +kernel
theorem dL_law_991 : decode cL_law 991 = .ok (.if_icmp .eq 350, 3) := by decide +kernel
theorem dL_law_994 : decode cL_law 994 = .ok (.iconst 0, 1) := by decide +kernel
theorem dL_law_995 : decode cL_law 995 = .ok (.ireturn, 1) := by decide +kernel
theorem dL_law_996 : decode cL_law 996 = .ok (.aload_n 1, 1) := by decide +kernel
