theorem D_W_law_645 : decode code 645 = .ok (.invokevirtual 68, 3) ∧ 645 + 3 = 648 := by decide +kernel
theorem D_W_law_648 : decode code 648 = .ok (.aload_n 2, 1) ∧ 648 + 1 = 649 := by decide +kernel
theorem D_W_law_649 : decode code 649 = .ok (.aload_n 0, 1) ∧ 649 + 1 = 650 := by decide +kernel
theorem D_W_law_650 : decode code 650 = .ok (.iload_n 3, 1) ∧ 650 + 1 = 651 := by decide +kernel
theorem D_W_law_651 : decode code 651 = .ok (.iconst 1, 1) ∧ 651 + 1 = 652 := by decide +kernel
theorem D_W_law_652 : decode code 652 = .ok (.iadd, 1) ∧ 652 + 1 = 653 := by decide +kernel
theorem D_W_law_653 : decode code 653 = .ok (.iaload, 1) ∧ 653 + 1 = 654 := by decide +kernel
theorem D_W_law_654 : decode code 654 = .ok (.invokevirtual 71, 3) ∧ 654 + 3 = 657 := by decide +kernel
theorem D_W_law_657 : decode code 657 = .ok (.if_icmp .eq 842, 3) ∧ ((657 : Nat) : Int) + 842 = ((1499 : Nat) : Int) ∧ 657 + 3 = 660 := by decide +kernel
theorem D_W_law_660 : decode code 660 = .ok (.iconst 0, 1) ∧ 660 + 1 = 661 := by decide +kernel
theorem D_W_law_662 : decode code 662 = .ok (.aload_n 1, 1) ∧ 662 + 1 = 663 := by decide +kernel
theorem D_W_law_663 : decode code 663 = .ok (.aload_n 0, 1) ∧ 663 + 1 = 664 := by decide +kernel
theorem D_W_law_664 : decode code 664 = .ok (.iload_n 3, 1) ∧ 664 + 1 = 665 := by decide +kernel
theorem D_W_law_665 : decode code 665 = .ok (.iconst 1, 1) ∧ 665 + 1 = 666 := by decide +kernel
theorem D_W_law_666 : decode code 666 = .ok (.iadd, 1) ∧ 666 + 1 = 667 := by decide +kernel
theorem D_W_law_667 : decode code 667 = .ok (.iaload, 1) ∧ 667 + 1 = 668 := by decide +kernel
theorem D_W_law_668 : decode code 668 = .ok (.invokevirtual 72, 3) ∧ 668 + 3 = 671 := by decide +kernel
theorem D_W_law_671 : decode code 671 = .ok (.aload_n 2, 1) ∧ 671 + 1 = 672 := by decide +kernel
theorem D_W_law_672 : decode code 672 = .ok (.aload_n 0, 1) ∧ 672 + 1 = 673 := by decide +kernel
theorem D_W_law_673 : decode code 673 = .ok (.iload_n 3, 1) ∧ 673 + 1 = 674 := by decide +kernel
theorem D_W_law_674 : decode code 674 = .ok (.iconst 1, 1) ∧ 674 + 1 = 675 := by decide +kernel
theorem D_W_law_675 : decode code 675 = .ok (.iadd, 1) ∧ 675 + 1 = 676 := by decide +kernel
theorem D_W_law_676 : decode code 676 = .ok (.iaload, 1) ∧ 676 + 1 = 677 := by decide +kernel
theorem D_W_law_677 : decode code 677 = .ok (.invokevirtual 75, 3) ∧ 677 + 3 = 680 := by decide +kernel
theorem D_W_law_680 : decode code 680 = .ok (.if_icmp .eq 819, 3) ∧ ((680 : Nat) : Int) + 819 = ((1499 : Nat) : Int) ∧ 680 + 3 = 683 := by decide +kernel
theorem D_W_law_683 : decode code 683 = .ok (.iconst 0, 1) ∧ 683 + 1 = 684 := by decide +kernel
theorem D_W_law_685 : decode code 685 = .ok (.aload_n 1, 1) ∧ 685 + 1 = 686 := by decide +kernel
theorem D_W_law_686 : decode code 686 = .ok (.aload_n 0, 1) ∧ 686 + 1 = 687 := by decide +kernel
theorem D_W_law_687 : decode code 687 = .ok (.iload_n 3, 1) ∧ 687 + 1 = 688 := by decide +kernel
theorem D_W_law_688 : decode code 688 = .ok (.iconst 1, 1) ∧ 688 + 1 = 689 := by decide +kernel
theorem D_W_law_689 : decode code 689 = .ok (.iadd, 1) ∧ 689 + 1 = 690 := by decide +kernel
theorem D_W_law_690 : decode code 690 = .ok (.iaload, 1) ∧ 690 + 1 = 691 := by decide +kernel
theorem D_W_law_691 : decode code 691 = .ok (.aload_n 0, 1) ∧ 691 + 1 = 692 := by decide +kernel
theorem D_W_law_692 : decode code 692 = .ok (.iload_n 3, 1) ∧ 692 + 1 = 693 := by decide +kernel
theorem D_W_law_693 : decode code 693 = .ok (.iconst 2, 1) ∧ 693 + 1 = 694 := by decide +kernel
theorem D_W_law_694 : decode code 694 = .ok (.iadd, 1) ∧ 694 + 1 = 695 := by decide +kernel
theorem D_W_law_695 : decode code 695 = .ok (.iaload, 1) ∧ 695 + 1 = 696 := by decide +kernel
theorem D_W_law_696 : decode code 696 = .ok (.invokevirtual 76, 3) ∧ 696 + 3 = 699 := by decide +kernel
theorem D_W_law_699 : decode code 699 = .ok (.aload_n 2, 1) ∧ 699 + 1 = 700 := by decide +kernel
theorem D_W_law_700 : decode code 700 = .ok (.aload_n 0, 1) ∧ 700 + 1 = 701 := by decide +kernel
theorem D_W_law_701 : decode code 701 = .ok (.iload_n 3, 1) ∧ 701 + 1 = 702 := by decide +kernel
theorem D_W_law_702 : decode code 702 = .ok (.iconst 1, 1) ∧ 702 + 1 = 703 := by decide +kernel
theorem D_W_law_703 : decode code 703 = .ok (.iadd, 1) ∧ 703 + 1 = 704 := by decide +kernel
theorem D_W_law_704 : decode code 704 = .ok (.iaload, 1) ∧ 704 + 1 = 705 := by decide +kernel
theorem D_W_law_705 : decode code 705 = .ok (.aload_n 0, 1) ∧ 705 + 1 = 706 := by decide +kernel
theorem D_W_law_706 : decode code 706 = .ok (.iload_n 3, 1) ∧ 706 + 1 = 707 := by decide +kernel
theorem D_W_law_707 : decode code 707 = .ok (.iconst 2, 1) ∧ 707 + 1 = 708 := by decide +kernel
theorem D_W_law_708 : decode code 708 = .ok (.iadd, 1) ∧ 708 + 1 = 709 := by decide +kernel
theorem D_W_law_709 : decode code 709 = .ok (.iaload, 1) ∧ 709 + 1 = 710 := by decide +kernel
theorem D_W_law_710 : decode code 710 = .ok (.invokevirtual 79, 3) ∧ 710 + 3 = 713 := by decide +kernel
theorem D_W_law_713 : decode code 713 = .ok (.if_icmp .eq 786, 3) ∧ ((713 : Nat) : Int) + 786 = ((1499 : Nat) : Int) ∧ 713 + 3 = 716 := by decide +kernel
theorem D_W_law_716 : decode code 716 = .ok (.iconst 0, 1) ∧ 716 + 1 = 717 := by decide +kernel
theorem D_W_law_718 : decode code 718 = .ok (.aload_n 1, 1) ∧ 718 + 1 = 719 := by decide +kernel
theorem D_W_law_719 : decode code 719 = .ok (.aload_n 0, 1) ∧ 719 + 1 = 720 := by decide +kernel
theorem D_W_law_720 : decode code 720 = .ok (.iload_n 3, 1) ∧ 720 + 1 = 721 := by decide +kernel
theorem D_W_law_721 : decode code 721 = .ok (.iconst 1, 1) ∧ 721 + 1 = 722 := by decide +kernel
theorem D_W_law_722 : decode code 722 = .ok (.iadd, 1) ∧ 722 + 1 = 723 := by decide +kernel
theorem D_W_law_723 : decode code 723 = .ok (.iaload, 1) ∧ 723 + 1 = 724 := by decide +kernel
theorem D_W_law_724 : decode code 724 = .ok (.invokevirtual 80, 3) ∧ 724 + 3 = 727 := by decide +kernel
theorem D_W_law_727 : decode code 727 = .ok (.aload_n 2, 1) ∧ 727 + 1 = 728 := by decide +kernel
theorem D_W_law_728 : decode code 728 = .ok (.aload_n 0, 1) ∧ 728 + 1 = 729 := by decide +kernel
theorem D_W_law_729 : decode code 729 = .ok (.iload_n 3, 1) ∧ 729 + 1 = 730 := by decide +kernel
theorem D_W_law_730 : decode code 730 = .ok (.iconst 1, 1) ∧ 730 + 1 = 731 := by decide +kernel
theorem D_W_law_731 : decode code 731 = .ok (.iadd, 1) ∧ 731 + 1 = 732 := by decide +kernel
theorem D_W_law_732 : decode code 732 = .ok (.iaload, 1) ∧ 732 + 1 = 733 := by decide +kernel
theorem D_W_law_733 : decode code 733 = .ok (.invokevirtual 83, 3) ∧ 733 + 3 = 736 := by decide +kernel
theorem D_W_law_736 : decode code 736 = .ok (.if_icmp .eq 763, 3) ∧ ((736 : Nat) : Int) + 763 = ((1499 : Nat) : Int) ∧ 736 + 3 = 739 := by decide +kernel
theorem D_W_law_739 : decode code 739 = .ok (.iconst 0, 1) ∧ 739 + 1 = 740 := by decide +kernel
theorem D_W_law_741 : decode code 741 = .ok (.aload_n 1, 1) ∧ 741 + 1 = 742 := by decide +kernel
theorem D_W_law_742 : decode code 742 = .ok (.aload_n 0, 1) ∧ 742 + 1 = 743 := by decide +kernel
theorem D_W_law_743 : decode code 743 = .ok (.iload_n 3, 1) ∧ 743 + 1 = 744 := by decide +kernel
theorem D_W_law_744 : decode code 744 = .ok (.iconst 1, 1) ∧ 744 + 1 = 745 := by decide +kernel
theorem D_W_law_745 : decode code 745 = .ok (.iadd, 1) ∧ 745 + 1 = 746 := by decide +kernel
theorem D_W_law_746 : decode code 746 = .ok (.iaload, 1) ∧ 746 + 1 = 747 := by decide +kernel
theorem D_W_law_747 : decode code 747 = .ok (.invokevirtual 84, 3) ∧ 747 + 3 = 750 := by decide +kernel
theorem D_W_law_750 : decode code 750 = .ok (.aload_n 2, 1) ∧ 750 + 1 = 751 := by decide +kernel
theorem D_W_law_751 : decode code 751 = .ok (.aload_n 0, 1) ∧ 751 + 1 = 752 := by decide +kernel
theorem D_W_law_752 : decode code 752 = .ok (.iload_n 3, 1) ∧ 752 + 1 = 753 := by decide +kernel
theorem D_W_law_753 : decode code 753 = .ok (.iconst 1, 1) ∧ 753 + 1 = 754 := by decide +kernel
theorem D_W_law_754 : decode code 754 = .ok (.iadd, 1) ∧ 754 + 1 = 755 := by decide +kernel
theorem D_W_law_755 : decode code 755 = .ok (.iaload, 1) ∧ 755 + 1 = 756 := by decide +kernel
theorem D_W_law_756 : decode code 756 = .ok (.invokevirtual 87, 3) ∧ 756 + 3 = 759 := by decide +kernel
theorem D_W_law_759 : decode code 759 = .ok (.if_icmp .eq 740, 3) ∧ ((759 : Nat) : Int) + 740 = ((1499 : Nat) : Int) ∧ 759 + 3 = 762 := by decide +kernel
theorem D_W_law_762 : decode code 762 = .ok (.iconst 0, 1) ∧ 762 + 1 = 763 := by decide +kernel
theorem D_W_law_764 : decode code 764 = .ok (.aload_n 1, 1) ∧ 764 + 1 = 765 := by decide +kernel
theorem D_W_law_765 : decode code 765 = .ok (.aload_n 0, 1) ∧ 765 + 1 = 766 := by decide +kernel
theorem D_W_law_766 : decode code 766 = .ok (.iload_n 3, 1) ∧ 766 + 1 = 767 := by decide +kernel
theorem D_W_law_767 : decode code 767 = .ok (.iconst 1, 1) ∧ 767 + 1 = 768 := by decide +kernel
theorem D_W_law_768 : decode code 768 = .ok (.iadd, 1) ∧ 768 + 1 = 769 := by decide +kernel
theorem D_W_law_769 : decode code 769 = .ok (.iaload, 1) ∧ 769 + 1 = 770 := by decide +kernel
theorem D_W_law_770 : decode code 770 = .ok (.aload_n 0, 1) ∧ 770 + 1 = 771 := by decide +kernel
theorem D_W_law_771 : decode code 771 = .ok (.iload_n 3, 1) ∧ 771 + 1 = 772 := by decide +kernel
theorem D_W_law_772 : decode code 772 = .ok (.iconst 2, 1) ∧ 772 + 1 = 773 := by decide +kernel
theorem D_W_law_773 : decode code 773 = .ok (.iadd, 1) ∧ 773 + 1 = 774 := by decide +kernel
theorem D_W_law_774 : decode code 774 = .ok (.iaload, 1) ∧ 774 + 1 = 775 := by decide +kernel
theorem D_W_law_775 : decode code 775 = .ok (.aload_n 0, 1) ∧ 775 + 1 = 776 := by decide +kernel
theorem D_W_law_776 : decode code 776 = .ok (.iload_n 3, 1) ∧ 776 + 1 = 777 := by decide +kernel
theorem D_W_law_777 : decode code 777 = .ok (.iconst 3, 1) ∧ 777 + 1 = 778 := by decide +kernel
theorem D_W_law_778 : decode code 778 = .ok (.iadd, 1) ∧ 778 + 1 = 779 := by decide +kernel
theorem D_W_law_779 : decode code 779 = .ok (.iaload, 1) ∧ 779 + 1 = 780 := by decide +kernel
theorem D_W_law_780 : decode code 780 = .ok (.invokevirtual 88, 3) ∧ 780 + 3 = 783 := by decide +kernel
theorem D_W_law_783 : decode code 783 = .ok (.aload_n 2, 1) ∧ 783 + 1 = 784 := by decide +kernel
theorem D_W_law_784 : decode code 784 = .ok (.aload_n 0, 1) ∧ 784 + 1 = 785 := by decide +kernel
theorem D_W_law_785 : decode code 785 = .ok (.iload_n 3, 1) ∧ 785 + 1 = 786 := by decide +kernel
theorem D_W_law_786 : decode code 786 = .ok (.iconst 1, 1) ∧ 786 + 1 = 787 := by decide +kernel
theorem D_W_law_787 : decode code 787 = .ok (.iadd, 1) ∧ 787 + 1 = 788 := by decide +kernel
theorem D_W_law_788 : decode code 788 = .ok (.iaload, 1) ∧ 788 + 1 = 789 := by decide +kernel
theorem D_W_law_789 : decode code 789 = .ok (.aload_n 0, 1) ∧ 789 + 1 = 790 := by decide +kernel
theorem D_W_law_790 : decode code 790 = .ok (.iload_n 3, 1) ∧ 790 + 1 = 791 := by decide +kernel
theorem D_W_law_791 : decode code 791 = .ok (.iconst 2, 1) ∧ 791 + 1 = 792 := by decide +kernel
theorem D_W_law_792 : decode code 792 = .ok (.iadd, 1) ∧ 792 + 1 = 793 := by decide +kernel
theorem D_W_law_793 : decode code 793 = .ok (.iaload, 1) ∧ 793 + 1 = 794 := by decide +kernel
theorem D_W_law_794 : decode code 794 = .ok (.aload_n 0, 1) ∧ 794 + 1 = 795 := by decide +kernel
theorem D_W_law_795 : decode code 795 = .ok (.iload_n 3, 1) ∧ 795 + 1 = 796 := by decide +kernel
theorem D_W_law_796 : decode code 796 = .ok (.iconst 3, 1) ∧ 796 + 1 = 797 := by decide +kernel
theorem D_W_law_797 : decode code 797 = .ok (.iadd, 1) ∧ 797 + 1 = 798 := by decide +kernel
theorem D_W_law_798 : decode code 798 = .ok (.iaload, 1) ∧ 798 + 1 = 799 := by decide +kernel
theorem D_W_law_799 : decode code 799 = .ok (.invokevirtual 91, 3) ∧ 799 + 3 = 802 := by decide +kernel
theorem D_W_law_802 : decode code 802 = .ok (.if_icmp .eq 697, 3) ∧ ((802 : Nat) : Int) + 697 = ((1499 : Nat) : Int) ∧ 802 + 3 = 805 := by decide +kernel
theorem D_W_law_805 : decode code 805 = .ok (.iconst 0, 1) ∧ 805 + 1 = 806 := by decide +kernel
theorem D_W_law_807 : decode code 807 = .ok (.aload_n 1, 1) ∧ 807 + 1 = 808 := by decide +kernel
theorem D_W_law_808 : decode code 808 = .ok (.aload_n 0, 1) ∧ 808 + 1 = 809 := by decide +kernel
theorem D_W_law_809 : decode code 809 = .ok (.iload_n 3, 1) ∧ 809 + 1 = 810 := by decide +kernel
theorem D_W_law_810 : decode code 810 = .ok (.iconst 1, 1) ∧ 810 + 1 = 811 := by decide +kernel
theorem D_W_law_811 : decode code 811 = .ok (.iadd, 1) ∧ 811 + 1 = 812 := by decide +kernel
theorem D_W_law_812 : decode code 812 = .ok (.iaload, 1) ∧ 812 + 1 = 813 := by decide +kernel
theorem D_W_law_813 : decode code 813 = .ok (.invokevirtual 92, 3) ∧ 813 + 3 = 816 := by decide +kernel
theorem D_W_law_816 : decode code 816 = .ok (.aload_n 2, 1) ∧ 816 + 1 = 817 := by decide +kernel
theorem D_W_law_817 : decode code 817 = .ok (.aload_n 0, 1) ∧ 817 + 1 = 818 := by decide +kernel
theorem D_W_law_818 : decode code 818 = .ok (.iload_n 3, 1) ∧ 818 + 1 = 819 := by decide +kernel
theorem D_W_law_819 : decode code 819 = .ok (.iconst 1, 1) ∧ 819 + 1 = 820 := by decide +kernel
theorem D_W_law_820 : decode code 820 = .ok (.iadd, 1) ∧ 820 + 1 = 821 := by decide +kernel
theorem D_W_law_821 : decode code 821 = .ok (.iaload, 1) ∧ 821 + 1 = 822 := by decide +kernel
theorem D_W_law_822 : decode code 822 = .ok (.invokevirtual 95, 3) ∧ 822 + 3 = 825 := by decide +kernel
theorem D_W_law_825 : decode code 825 = .ok (.if_icmp .eq 674, 3) ∧ ((825 : Nat) : Int) + 674 = ((1499 : Nat) : Int) ∧ 825 + 3 = 828 := by decide +kernel
theorem D_W_law_828 : decode code 828 = .ok (.iconst 0, 1) ∧ 828 + 1 = 829 := by decide +kernel
theorem D_W_law_830 : decode code 830 = .ok (.aload_n 1, 1) ∧ 830 + 1 = 831 := by decide +kernel
theorem D_W_law_831 : decode code 831 = .ok (.invokevirtual 96, 3) ∧ 831 + 3 = 834 := by decide +kernel
theorem D_W_law_834 : decode code 834 = .ok (.aload_n 2, 1) ∧ 834 + 1 = 835 := by decide +kernel
theorem D_W_law_835 : decode code 835 = .ok (.invokevirtual 100, 3) ∧ 835 + 3 = 838 := by decide +kernel
theorem D_W_law_838 : decode code 838 = .ok (.if_icmp .eq 661, 3) ∧ ((838 : Nat) : Int) + 661 = ((1499 : Nat) : Int) ∧ 838 + 3 = 841 := by decide +kernel
theorem D_W_law_841 : decode code 841 = .ok (.iconst 0, 1) ∧ 841 + 1 = 842 := by decide +kernel
theorem D_W_law_843 : decode code 843 = .ok (.aload_n 1, 1) ∧ 843 + 1 = 844 := by decide +kernel
theorem D_W_law_844 : decode code 844 = .ok (.aload_n 0, 1) ∧ 844 + 1 = 845 := by decide +kernel
theorem D_W_law_845 : decode code 845 = .ok (.iload_n 3, 1) ∧ 845 + 1 = 846 := by decide +kernel
theorem D_W_law_846 : decode code 846 = .ok (.iconst 1, 1) ∧ 846 + 1 = 847 := by decide +kernel
theorem D_W_law_847 : decode code 847 = .ok (.iadd, 1) ∧ 847 + 1 = 848 := by decide +kernel
theorem D_W_law_848 : decode code 848 = .ok (.iaload, 1) ∧ 848 + 1 = 849 := by decide +kernel
theorem D_W_law_849 : decode code 849 = .ok (.aload_n 0, 1) ∧ 849 + 1 = 850 := by decide +kernel
theorem D_W_law_850 : decode code 850 = .ok (.iload_n 3, 1) ∧ 850 + 1 = 851 := by decide +kernel
theorem D_W_law_851 : decode code 851 = .ok (.iconst 2, 1) ∧ 851 + 1 = 852 := by decide +kernel
theorem D_W_law_852 : decode code 852 = .ok (.iadd, 1) ∧ 852 + 1 = 853 := by decide +kernel
theorem D_W_law_853 : decode code 853 = .ok (.iaload, 1) ∧ 853 + 1 = 854 := by decide +kernel
theorem D_W_law_854 : decode code 854 = .ok (.invokevirtual 101, 3) ∧ 854 + 3 = 857 := by decide +kernel
theorem D_W_law_857 : decode code 857 = .ok (.aload_n 2, 1) ∧ 857 + 1 = 858 := by decide +kernel
theorem D_W_law_858 : decode code 858 = .ok (.aload_n 0, 1) ∧ 858 + 1 = 859 := by decide +kernel
theorem D_W_law_859 : decode code 859 = .ok (.iload_n 3, 1) ∧ 859 + 1 = 860 := by decide +kernel
theorem D_W_law_860 : decode code 860 = .ok (.iconst 1, 1) ∧ 860 + 1 = 861 := by decide +kernel
theorem D_W_law_861 : decode code 861 = .ok (.iadd, 1) ∧ 861 + 1 = 862 := by decide +kernel
theorem D_W_law_862 : decode code 862 = .ok (.iaload, 1) ∧ 862 + 1 = 863 := by decide +kernel
theorem D_W_law_863 : decode code 863 = .ok (.aload_n 0, 1) ∧ 863 + 1 = 864 := by decide +kernel
theorem D_W_law_864 : decode code 864 = .ok (.iload_n 3, 1) ∧ 864 + 1 = 865 := by decide +kernel
theorem D_W_law_865 : decode code 865 = .ok (.iconst 2, 1) ∧ 865 + 1 = 866 := by decide +kernel
theorem D_W_law_866 : decode code 866 = .ok (.iadd, 1) ∧ 866 + 1 = 867 := by decide +kernel
theorem D_W_law_867 : decode code 867 = .ok (.iaload, 1) ∧ 867 + 1 = 868 := by decide +kernel
theorem D_W_law_868 : decode code 868 = .ok (.invokevirtual 104, 3) ∧ 868 + 3 = 871 := by decide +kernel
theorem D_W_law_871 : decode code 871 = .ok (.if_icmp .eq 628, 3) ∧ ((871 : Nat) : Int) + 628 = ((1499 : Nat) : Int) ∧ 871 + 3 = 874 := by decide +kernel
theorem D_W_law_874 : decode code 874 = .ok (.iconst 0, 1) ∧ 874 + 1 = 875 := by decide +kernel
theorem D_W_law_876 : decode code 876 = .ok (.aload_n 1, 1) ∧ 876 + 1 = 877 := by decide +kernel
theorem D_W_law_877 : decode code 877 = .ok (.aload_n 0, 1) ∧ 877 + 1 = 878 := by decide +kernel
theorem D_W_law_878 : decode code 878 = .ok (.iload_n 3, 1) ∧ 878 + 1 = 879 := by decide +kernel
theorem D_W_law_879 : decode code 879 = .ok (.iconst 1, 1) ∧ 879 + 1 = 880 := by decide +kernel
theorem D_W_law_880 : decode code 880 = .ok (.iadd, 1) ∧ 880 + 1 = 881 := by decide +kernel
theorem D_W_law_881 : decode code 881 = .ok (.iaload, 1) ∧ 881 + 1 = 882 := by decide +kernel
theorem D_W_law_882 : decode code 882 = .ok (.aload_n 0, 1) ∧ 882 + 1 = 883 := by decide +kernel
theorem D_W_law_883 : decode code 883 = .ok (.iload_n 3, 1) ∧ 883 + 1 = 884 := by decide +kernel
theorem D_W_law_884 : decode code 884 = .ok (.iconst 2, 1) ∧ 884 + 1 = 885 := by decide +kernel
theorem D_W_law_885 : decode code 885 = .ok (.iadd, 1) ∧ 885 + 1 = 886 := by decide +kernel
theorem D_W_law_886 : decode code 886 = .ok (.iaload, 1) ∧ 886 + 1 = 887 := by decide +kernel
theorem D_W_law_887 : decode code 887 = .ok (.aload_n 0, 1) ∧ 887 + 1 = 888 := by decide +kernel
theorem D_W_law_888 : decode code 888 = .ok (.iload_n 3, 1) ∧ 888 + 1 = 889 := by decide +kernel
theorem D_W_law_889 : decode code 889 = .ok (.iconst 3, 1) ∧ 889 + 1 = 890 := by decide +kernel
theorem D_W_law_890 : decode code 890 = .ok (.iadd, 1) ∧ 890 + 1 = 891 := by decide +kernel
theorem D_W_law_891 : decode code 891 = .ok (.iaload, 1) ∧ 891 + 1 = 892 := by decide +kernel
theorem D_W_law_892 : decode code 892 = .ok (.invokevirtual 105, 3) ∧ 892 + 3 = 895 := by decide +kernel
theorem D_W_law_895 : decode code 895 = .ok (.aload_n 2, 1) ∧ 895 + 1 = 896 := by decide +kernel
theorem D_W_law_896 : decode code 896 = .ok (.aload_n 0, 1) ∧ 896 + 1 = 897 := by decide +kernel
theorem D_W_law_897 : decode code 897 = .ok (.iload_n 3, 1) ∧ 897 + 1 = 898 := by decide +kernel
theorem D_W_law_898 : decode code 898 = .ok (.iconst 1, 1) ∧ 898 + 1 = 899 := by decide +kernel
theorem D_W_law_899 : decode code 899 = .ok (.iadd, 1) ∧ 899 + 1 = 900 := by decide +kernel
theorem D_W_law_900 : decode code 900 = .ok (.iaload, 1) ∧ 900 + 1 = 901 := by decide +kernel
theorem D_W_law_901 : decode code 901 = .ok (.aload_n 0, 1) ∧ 901 + 1 = 902 := by decide +kernel
theorem D_W_law_902 : decode code 902 = .ok (.iload_n 3, 1) ∧ 902 + 1 = 903 := by decide +kernel
theorem D_W_law_903 : decode code 903 = .ok (.iconst 2, 1) ∧ 903 + 1 = 904 := by decide +kernel
theorem D_W_law_904 : decode code 904 = .ok (.iadd, 1) ∧ 904 + 1 = 905 := by decide +kernel
theorem D_W_law_905 : decode code 905 = .ok (.iaload, 1) ∧ 905 + 1 = 906 := by decide +kernel
theorem D_W_law_906 : decode code 906 = .ok (.aload_n 0, 1) ∧ 906 + 1 = 907 := by decide +kernel
theorem D_W_law_907 : decode code 907 = .ok (.iload_n 3, 1) ∧ 907 + 1 = 908 := by decide +kernel
theorem D_W_law_908 : decode code 908 = .ok (.iconst 3, 1) ∧ 908 + 1 = 909 := by decide +kernel
theorem D_W_law_909 : decode code 909 = .ok (.iadd, 1) ∧ 909 + 1 = 910 := by decide +kernel
theorem D_W_law_910 : decode code 910 = .ok (.iaload, 1) ∧ 910 + 1 = 911 := by decide +kernel
theorem D_W_law_911 : decode code 911 = .ok (.invokevirtual 108, 3) ∧ 911 + 3 = 914 := by decide +kernel
theorem D_W_law_914 : decode code 914 = .ok (.if_icmp .eq 585, 3) ∧ ((914 : Nat) : Int) + 585 = ((1499 : Nat) : Int) ∧ 914 + 3 = 917 := by decide +kernel
theorem D_W_law_917 : decode code 917 = .ok (.iconst 0, 1) ∧ 917 + 1 = 918 := by decide +kernel
theorem D_W_law_919 : decode code 919 = .ok (.aload_n 1, 1) ∧ 919 + 1 = 920 := by decide +kernel
theorem D_W_law_920 : decode code 920 = .ok (.invokevirtual 109, 3) ∧ 920 + 3 = 923 := by decide +kernel
theorem D_W_law_923 : decode code 923 = .ok (.aload_n 2, 1) ∧ 923 + 1 = 924 := by decide +kernel
theorem D_W_law_924 : decode code 924 = .ok (.invokevirtual 112, 3) ∧ 924 + 3 = 927 := by decide +kernel
theorem D_W_law_927 : decode code 927 = .ok (.if_icmp .eq 572, 3) ∧ ((927 : Nat) : Int) + 572 = ((1499 : Nat) : Int) ∧ 927 + 3 = 930 := by decide +kernel
theorem D_W_law_930 : decode code 930 = .ok (.iconst 0, 1) ∧ 930 + 1 = 931 := by decide +kernel
theorem D_W_law_932 : decode code 932 = .ok (.aload_n 1, 1) ∧ 932 + 1 = 933 := by decide +kernel
theorem D_W_law_933 : decode code 933 = .ok (.aload_n 0, 1) ∧ 933 + 1 = 934 := by decide +kernel
theorem D_W_law_934 : decode code 934 = .ok (.iload_n 3, 1) ∧ 934 + 1 = 935 := by decide +kernel
theorem D_W_law_935 : decode code 935 = .ok (.iconst 1, 1) ∧ 935 + 1 = 936 := by decide +kernel
theorem D_W_law_936 : decode code 936 = .ok (.iadd, 1) ∧ 936 + 1 = 937 := by decide +kernel
theorem D_W_law_937 : decode code 937 = .ok (.iaload, 1) ∧ 937 + 1 = 938 := by decide +kernel
theorem D_W_law_938 : decode code 938 = .ok (.aload_n 0, 1) ∧ 938 + 1 = 939 := by decide +kernel
theorem D_W_law_939 : decode code 939 = .ok (.iload_n 3, 1) ∧ 939 + 1 = 940 := by decide +kernel
theorem D_W_law_940 : decode code 940 = .ok (.iconst 2, 1) ∧ 940 + 1 = 941 := by decide +kernel
theorem D_W_law_941 : decode code 941 = .ok (.iadd, 1) ∧ 941 + 1 = 942 := by decide +kernel
theorem D_W_law_942 : decode code 942 = .ok (.iaload, 1) ∧ 942 + 1 = 943 := by decide +kernel
theorem D_W_law_943 : decode code 943 = .ok (.aload_n 0, 1) ∧ 943 + 1 = 944 := by decide +kernel
theorem D_W_law_944 : decode code 944 = .ok (.iload_n 3, 1) ∧ 944 + 1 = 945 := by decide +kernel
theorem D_W_law_945 : decode code 945 = .ok (.iconst 3, 1) ∧ 945 + 1 = 946 := by decide +kernel
theorem D_W_law_946 : decode code 946 = .ok (.iadd, 1) ∧ 946 + 1 = 947 := by decide +kernel
theorem D_W_law_947 : decode code 947 = .ok (.iaload, 1) ∧ 947 + 1 = 948 := by decide +kernel
theorem D_W_law_948 : decode code 948 = .ok (.invokevirtual 113, 3) ∧ 948 + 3 = 951 := by decide +kernel
theorem D_W_law_951 : decode code 951 = .ok (.aload_n 2, 1) ∧ 951 + 1 = 952 := by decide +kernel
theorem D_W_law_952 : decode code 952 = .ok (.aload_n 0, 1) ∧ 952 + 1 = 953 := by decide +kernel
theorem D_W_law_953 : decode code 953 = .ok (.iload_n 3, 1) ∧ 953 + 1 = 954 := by decide +kernel
theorem D_W_law_954 : decode code 954 = .ok (.iconst 1, 1) ∧ 954 + 1 = 955 := by decide +kernel
theorem D_W_law_955 : decode code 955 = .ok (.iadd, 1) ∧ 955 + 1 = 956 := by decide +kernel
theorem D_W_law_956 : decode code 956 = .ok (.iaload, 1) ∧ 956 + 1 = 957 := by decide +kernel
theorem D_W_law_957 : decode code 957 = .ok (.aload_n 0, 1) ∧ 957 + 1 = 958 := by decide +kernel
theorem D_W_law_958 : decode code 958 = .ok (.iload_n 3, 1) ∧ 958 + 1 = 959 := by decide +kernel
theorem D_W_law_959 : decode code 959 = .ok (.iconst 2, 1) ∧ 959 + 1 = 960 := by decide +kernel
theorem D_W_law_960 : decode code 960 = .ok (.iadd, 1) ∧ 960 + 1 = 961 := by decide +kernel
theorem D_W_law_961 : decode code 961 = .ok (.iaload, 1) ∧ 961 + 1 = 962 := by decide +kernel
theorem D_W_law_962 : decode code 962 = .ok (.aload_n 0, 1) ∧ 962 + 1 = 963 := by decide +kernel
theorem D_W_law_963 : decode code 963 = .ok (.iload_n 3, 1) ∧ 963 + 1 = 964 := by decide +kernel
theorem D_W_law_964 : decode code 964 = .ok (.iconst 3, 1) ∧ 964 + 1 = 965 := by decide +kernel
theorem D_W_law_965 : decode code 965 = .ok (.iadd, 1) ∧ 965 + 1 = 966 := by decide +kernel
theorem D_W_law_966 : decode code 966 = .ok (.iaload, 1) ∧ 966 + 1 = 967 := by decide +kernel
theorem D_W_law_967 : decode code 967 = .ok (.invokevirtual 116, 3) ∧ 967 + 3 = 970 := by decide +kernel
theorem D_W_law_970 : decode code 970 = .ok (.if_icmp .eq 529, 3) ∧ ((970 : Nat) : Int) + 529 = ((1499 : Nat) : Int) ∧ 970 + 3 = 973 := by decide +kernel
theorem D_W_law_973 : decode code 973 = .ok (.iconst 0, 1) ∧ 973 + 1 = 974 := by decide +kernel
theorem D_W_law_975 : decode code 975 = .ok (.aload_n 1, 1) ∧ 975 + 1 = 976 := by decide +kernel
theorem D_W_law_976 : decode code 976 = .ok (.aload_n 0, 1) ∧ 976 + 1 = 977 := by decide +kernel
theorem D_W_law_977 : decode code 977 = .ok (.iload_n 3, 1) ∧ 977 + 1 = 978 := by decide +kernel
theorem D_W_law_978 : decode code 978 = .ok (.iconst 1, 1) ∧ 978 + 1 = 979 := by decide +kernel
theorem D_W_law_979 : decode code 979 = .ok (.iadd, 1) ∧ 979 + 1 = 980 := by decide +kernel
theorem D_W_law_980 : decode code 980 = .ok (.iaload, 1) ∧ 980 + 1 = 981 := by decide +kernel
theorem D_W_law_981 : decode code 981 = .ok (.invokevirtual 117, 3) ∧ 981 + 3 = 984 := by decide +kernel
theorem D_W_law_984 : decode code 984 = .ok (.aload_n 2, 1) ∧ 984 + 1 = 985 := by decide +kernel
theorem D_W_law_985 : decode code 985 = .ok (.aload_n 0, 1) ∧ 985 + 1 = 986 := by decide +kernel
theorem D_W_law_986 : decode code 986 = .ok (.iload_n 3, 1) ∧ 986 + 1 = 987 := by decide +kernel
theorem D_W_law_987 : decode code 987 = .ok (.iconst 1, 1) ∧ 987 + 1 = 988 := by decide +kernel
theorem D_W_law_988 : decode code 988 = .ok (.iadd, 1) ∧ 988 + 1 = 989 := by decide +kernel
theorem D_W_law_989 : decode code 989 = .ok (.iaload, 1) ∧ 989 + 1 = 990 := by decide +kernel
theorem D_W_law_990 : decode code 990 = .ok (.invokevirtual 120, 3) ∧ 990 + 3 = 993 := by decide +kernel
theorem D_W_law_993 : decode code 993 = .ok (.if_icmp .eq 506, 3) ∧ ((993 : Nat) : Int) + 506 = ((1499 : Nat) : Int) ∧ 993 + 3 = 996 := by decide +kernel
theorem D_W_law_996 : decode code 996 = .ok (.iconst 0, 1) ∧ 996 + 1 = 997 := by decide +kernel
theorem D_W_law_998 : decode code 998 = .ok (.aload_n 1, 1) ∧ 998 + 1 = 999 := by decide +kernel
theorem D_W_law_999 : decode code 999 = .ok (.invokevirtual 121, 3) ∧ 999 + 3 = 1002 := by decide +kernel
theorem D_W_law_1002 : decode code 1002 = .ok (.aload_n 2, 1) ∧ 1002 + 1 = 1003 := by decide +kernel
theorem D_W_law_1003 : decode code 1003 = .ok (.invokevirtual 124, 3) ∧ 1003 + 3 = 1006 := by decide +kernel
theorem D_W_law_1006 : decode code 1006 = .ok (.if_icmp .eq 493, 3) ∧ ((1006 : Nat) : Int) + 493 = ((1499 : Nat) : Int) ∧ 1006 + 3 = 1009 := by decide +kernel
theorem D_W_law_1009 : decode code 1009 = .ok (.iconst 0, 1) ∧ 1009 + 1 = 1010 := by decide +kernel
theorem D_W_law_1011 : decode code 1011 = .ok (.aload_n 1, 1) ∧ 1011 + 1 = 1012 := by decide +kernel
theorem D_W_law_1012 : decode code 1012 = .ok (.aload_n 0, 1) ∧ 1012 + 1 = 1013 := by decide +kernel
theorem D_W_law_1013 : decode code 1013 = .ok (.iload_n 3, 1) ∧ 1013 + 1 = 1014 := by decide +kernel
theorem D_W_law_1014 : decode code 1014 = .ok (.iconst 1, 1) ∧ 1014 + 1 = 1015 := by decide +kernel
theorem D_W_law_1015 : decode code 1015 = .ok (.iadd, 1) ∧ 1015 + 1 = 1016 := by decide +kernel
theorem D_W_law_1016 : decode code 1016 = .ok (.iaload, 1) ∧ 1016 + 1 = 1017 := by decide +kernel
theorem D_W_law_1017 : decode code 1017 = .ok (.aload_n 0, 1) ∧ 1017 + 1 = 1018 := by decide +kernel
theorem D_W_law_1018 : decode code 1018 = .ok (.iload_n 3, 1) ∧ 1018 + 1 = 1019 := by decide +kernel
theorem D_W_law_1019 : decode code 1019 = .ok (.iconst 2, 1) ∧ 1019 + 1 = 1020 := by decide +kernel
theorem D_W_law_1020 : decode code 1020 = .ok (.iadd, 1) ∧ 1020 + 1 = 1021 := by decide +kernel
theorem D_W_law_1021 : decode code 1021 = .ok (.iaload, 1) ∧ 1021 + 1 = 1022 := by decide +kernel
theorem D_W_law_1022 : decode code 1022 = .ok (.invokevirtual 125, 3) ∧ 1022 + 3 = 1025 := by decide +kernel
theorem D_W_law_1025 : decode code 1025 = .ok (.aload_n 2, 1) ∧ 1025 + 1 = 1026 := by decide +kernel
theorem D_W_law_1026 : decode code 1026 = .ok (.aload_n 0, 1) ∧ 1026 + 1 = 1027 := by decide +kernel
theorem D_W_law_1027 : decode code 1027 = .ok (.iload_n 3, 1) ∧ 1027 + 1 = 1028 := by decide +kernel
theorem D_W_law_1028 : decode code 1028 = .ok (.iconst 1, 1) ∧ 1028 + 1 = 1029 := by decide +kernel
theorem D_W_law_1029 : decode code 1029 = .ok (.iadd, 1) ∧ 1029 + 1 = 1030 := by decide +kernel
theorem D_W_law_1030 : decode code 1030 = .ok (.iaload, 1) ∧ 1030 + 1 = 1031 := by decide +kernel
theorem D_W_law_1031 : decode code 1031 = .ok (.aload_n 0, 1) ∧ 1031 + 1 = 1032 := by decide +kernel
theorem D_W_law_1032 : decode code 1032 = .ok (.iload_n 3, 1) ∧ 1032 + 1 = 1033 := by decide +kernel
theorem D_W_law_1033 : decode code 1033 = .ok (.iconst 2, 1) ∧ 1033 + 1 = 1034 := by decide +kernel
theorem D_W_law_1034 : decode code 1034 = .ok (.iadd, 1) ∧ 1034 + 1 = 1035 := by decide +kernel
theorem D_W_law_1035 : decode code 1035 = .ok (.iaload, 1) ∧ 1035 + 1 = 1036 := by decide +kernel
theorem D_W_law_1036 : decode code 1036 = .ok (.invokevirtual 128, 3) ∧ 1036 + 3 = 1039 := by decide +kernel
theorem D_W_law_1039 : decode code 1039 = .ok (.if_icmp .eq 460, 3) ∧ ((1039 : Nat) : Int) + 460 = ((1499 : Nat) : Int) ∧ 1039 + 3 = 1042 := by decide +kernel
theorem D_W_law_1042 : decode code 1042 = .ok (.iconst 0, 1) ∧ 1042 + 1 = 1043 := by decide +kernel
theorem D_W_law_1044 : decode code 1044 = .ok (.aload_n 1, 1) ∧ 1044 + 1 = 1045 := by decide +kernel
theorem D_W_law_1045 : decode code 1045 = .ok (.aload_n 0, 1) ∧ 1045 + 1 = 1046 := by decide +kernel
theorem D_W_law_1046 : decode code 1046 = .ok (.iload_n 3, 1) ∧ 1046 + 1 = 1047 := by decide +kernel
theorem D_W_law_1047 : decode code 1047 = .ok (.iconst 1, 1) ∧ 1047 + 1 = 1048 := by decide +kernel
theorem D_W_law_1048 : decode code 1048 = .ok (.iadd, 1) ∧ 1048 + 1 = 1049 := by decide +kernel
theorem D_W_law_1049 : decode code 1049 = .ok (.iaload, 1) ∧ 1049 + 1 = 1050 := by decide +kernel
theorem D_W_law_1050 : decode code 1050 = .ok (.invokevirtual 129, 3) ∧ 1050 + 3 = 1053 := by decide +kernel
theorem D_W_law_1053 : decode code 1053 = .ok (.aload_n 2, 1) ∧ 1053 + 1 = 1054 := by decide +kernel
theorem D_W_law_1054 : decode code 1054 = .ok (.aload_n 0, 1) ∧ 1054 + 1 = 1055 := by decide +kernel
theorem D_W_law_1055 : decode code 1055 = .ok (.iload_n 3, 1) ∧ 1055 + 1 = 1056 := by decide +kernel
theorem D_W_law_1056 : decode code 1056 = .ok (.iconst 1, 1) ∧ 1056 + 1 = 1057 := by decide +kernel
theorem D_W_law_1057 : decode code 1057 = .ok (.iadd, 1) ∧ 1057 + 1 = 1058 := by decide +kernel
theorem D_W_law_1058 : decode code 1058 = .ok (.iaload, 1) ∧ 1058 + 1 = 1059 := by decide +kernel
theorem D_W_law_1059 : decode code 1059 = .ok (.invokevirtual 132, 3) ∧ 1059 + 3 = 1062 := by decide +kernel
theorem D_W_law_1062 : decode code 1062 = .ok (.if_icmp .eq 437, 3) ∧ ((1062 : Nat) : Int) + 437 = ((1499 : Nat) : Int) ∧ 1062 + 3 = 1065 := by decide +kernel
theorem D_W_law_1065 : decode code 1065 = .ok (.iconst 0, 1) ∧ 1065 + 1 = 1066 := by decide +kernel
theorem D_W_law_1067 : decode code 1067 = .ok (.aload_n 1, 1) ∧ 1067 + 1 = 1068 := by decide +kernel
theorem D_W_law_1068 : decode code 1068 = .ok (.aload_n 0, 1) ∧ 1068 + 1 = 1069 := by decide +kernel
theorem D_W_law_1069 : decode code 1069 = .ok (.iload_n 3, 1) ∧ 1069 + 1 = 1070 := by decide +kernel
theorem D_W_law_1070 : decode code 1070 = .ok (.iconst 1, 1) ∧ 1070 + 1 = 1071 := by decide +kernel
theorem D_W_law_1071 : decode code 1071 = .ok (.iadd, 1) ∧ 1071 + 1 = 1072 := by decide +kernel
theorem D_W_law_1072 : decode code 1072 = .ok (.iaload, 1) ∧ 1072 + 1 = 1073 := by decide +kernel
theorem D_W_law_1073 : decode code 1073 = .ok (.aload_n 0, 1) ∧ 1073 + 1 = 1074 := by decide +kernel
theorem D_W_law_1074 : decode code 1074 = .ok (.iload_n 3, 1) ∧ 1074 + 1 = 1075 := by decide +kernel
theorem D_W_law_1075 : decode code 1075 = .ok (.iconst 2, 1) ∧ 1075 + 1 = 1076 := by decide +kernel
theorem D_W_law_1076 : decode code 1076 = .ok (.iadd, 1) ∧ 1076 + 1 = 1077 := by decide +kernel
theorem D_W_law_1077 : decode code 1077 = .ok (.iaload, 1) ∧ 1077 + 1 = 1078 := by decide +kernel
theorem D_W_law_1078 : decode code 1078 = .ok (.aload_n 0, 1) ∧ 1078 + 1 = 1079 := by decide +kernel
theorem D_W_law_1079 : decode code 1079 = .ok (.iload_n 3, 1) ∧ 1079 + 1 = 1080 := by decide +kernel
theorem D_W_law_1080 : decode code 1080 = .ok (.iconst 3, 1) ∧ 1080 + 1 = 1081 := by decide +kernel
theorem D_W_law_1081 : decode code 1081 = .ok (.iadd, 1) ∧ 1081 + 1 = 1082 := by decide +kernel
theorem D_W_law_1082 : decode code 1082 = .ok (.iaload, 1) ∧ 1082 + 1 = 1083 := by decide +kernel
theorem D_W_law_1083 : decode code 1083 = .ok (.invokevirtual 133, 3) ∧ 1083 + 3 = 1086 := by decide +kernel
theorem D_W_law_1086 : decode code 1086 = .ok (.aload_n 2, 1) ∧ 1086 + 1 = 1087 := by decide +kernel
theorem D_W_law_1087 : decode code 1087 = .ok (.aload_n 0, 1) ∧ 1087 + 1 = 1088 := by decide +kernel
theorem D_W_law_1088 : decode code 1088 = .ok (.iload_n 3, 1) ∧ 1088 + 1 = 1089 := by decide +kernel
theorem D_W_law_1089 : decode code 1089 = .ok (.iconst 1, 1) ∧ 1089 + 1 = 1090 := by decide +kernel
theorem D_W_law_1090 : decode code 1090 = .ok (.iadd, 1) ∧ 1090 + 1 = 1091 := by decide +kernel
theorem D_W_law_1091 : decode code 1091 = .ok (.iaload, 1) ∧ 1091 + 1 = 1092 := by decide +kernel
theorem D_W_law_1092 : decode code 1092 = .ok (.aload_n 0, 1) ∧ 1092 + 1 = 1093 := by decide +kernel
theorem D_W_law_1093 : decode code 1093 = .ok (.iload_n 3, 1) ∧ 1093 + 1 = 1094 := by decide +kernel
theorem D_W_law_1094 : decode code 1094 = .ok (.iconst 2, 1) ∧ 1094 + 1 = 1095 := by decide +kernel
theorem D_W_law_1095 : decode code 1095 = .ok (.iadd, 1) ∧ 1095 + 1 = 1096 := by decide +kernel
theorem D_W_law_1096 : decode code 1096 = .ok (.iaload, 1) ∧ 1096 + 1 = 1097 := by decide +kernel
theorem D_W_law_1097 : decode code 1097 = .ok (.aload_n 0, 1) ∧ 1097 + 1 = 1098 := by decide +kernel
theorem D_W_law_1098 : decode code 1098 = .ok (.iload_n 3, 1) ∧ 1098 + 1 = 1099 := by decide +kernel
theorem D_W_law_1099 : decode code 1099 = .ok (.iconst 3, 1) ∧ 1099 + 1 = 1100 := by decide +kernel
theorem D_W_law_1100 : decode code 1100 = .ok (.iadd, 1) ∧ 1100 + 1 = 1101 := by decide +kernel
theorem D_W_law_1101 : decode code 1101 = .ok (.iaload, 1) ∧ 1101 + 1 = 1102 := by decide +kernel
theorem D_W_law_1102 : decode code 1102 = .ok (.invokevirtual 136, 3) ∧ 1102 + 3 = 1105 := by decide +kernel
theorem D_W_law_1105 : decode code 1105 = .ok (.if_icmp .eq 394, 3) ∧ ((1105 : Nat) : Int) + 394 = ((1499 : Nat) : Int) ∧ 1105 + 3 = 1108 := by decide +kernel
theorem D_W_law_1108 : decode code 1108 = .ok (.iconst 0, 1) ∧ 1108 + 1 = 1109 := by decide +kernel
theorem D_W_law_1110 : decode code 1110 = .ok (.aload_n 1, 1) ∧ 1110 + 1 = 1111 := by decide +kernel
theorem D_W_law_1111 : decode code 1111 = .ok (.aload_n 0, 1) ∧ 1111 + 1 = 1112 := by decide +kernel
theorem D_W_law_1112 : decode code 1112 = .ok (.iload_n 3, 1) ∧ 1112 + 1 = 1113 := by decide +kernel
theorem D_W_law_1113 : decode code 1113 = .ok (.iconst 1, 1) ∧ 1113 + 1 = 1114 := by decide +kernel
