theorem eL_law_1783 : dc mL_law 1783 (.iload 4) 2 1785 := ⟨d_iload (bL (p := 1783) (v := 21) (by decide) (by decide +kernel)) (bL (p := 1784) (v := 4) (by decide) (by decide +kernel)), rfl⟩
theorem eL_law_1785 : dc mL_law 1785 (.iconst 4) 1 1786 := ⟨d_iconst_4 (bL (p := 1785) (v := 7) (by decide) (by decide +kernel)), rfl⟩
theorem eL_law_1786 : dc mL_law 1786 (.iadd) 1 1787 := ⟨d_iadd (bL (p := 1786) (v := 96) (by decide) (by decide +kernel)), rfl⟩
theorem eL_law_1787 : dc mL_law 1787 (.iaload) 1 1788 := ⟨d_iaload (bL (p := 1787) (v := 46) (by decide) (by decide +kernel)), rfl⟩
theorem eL_law_1788 : dc mL_law 1788 (.aload_n 0) 1 1789 := ⟨d_aload_0 (bL (p := 1788) (v := 42) (by decide) (by decide +kernel)), rfl⟩
theorem eL_law_1789 : dc mL_law 1789 (.iload 4) 2 1791 := ⟨d_iload (bL (p := 1789) (v := 21) (by decide) (by decide +kernel)) (bL (p := 1790) (v := 4) (by decide) (by decide +kernel)), rfl⟩
theorem eL_law_1791 : dc mL_law 1791 (.iconst 5) 1 1792 := ⟨d_iconst_5 (bL (p := 1791) (v := 8) (by decide) (by decide +kernel)), rfl⟩
theorem eL_law_1792 : dc mL_law 1792 (.iadd) 1 1793 := ⟨d_iadd (bL (p := 1792) (v := 96) (by decide) (by decide +kernel)), rfl⟩
theorem eL_law_1793 : dc mL_law 1793 (.iaload) 1 1794 := ⟨d_iaload (bL (p := 1793) (v := 46) (by decide) (by decide +kernel)), rfl⟩
theorem eL_law_1794 : dc mL_law 1794 (.invokevirtual 210) 3 1797 := ⟨d_invokevirtual (bL (p := 1794) (v := 182) (by decide) (by decide +kernel)) (bL (p := 1795) (v := 0) (by decide) (by decide +kernel)) (bL (p := 1796) (v := 210) (by decide) (by decide +kernel)) (by decide), rfl⟩
theorem eL_law_1797 : dc mL_law 1797 (.istore 6) 2 1799 := ⟨d_istore (bL (p := 1797) (v := 54) (by decide) (by decide +kernel)) (bL (p := 1798) (v := 6) (by decide) (by decide +kernel)), rfl⟩
theorem eL_law_1799 : dc mL_law 1799 (.aload_n 2) 1 1800 := ⟨d_aload_2 (bL (p := 1799) (v := 44) (by decide) (by decide +kernel)), rfl⟩
theorem eL_law_1800 : dc mL_law 1800 (.invokevirtual 141) 3 1803 := ⟨d_invokevirtual (bL (p := 1800) (v := 182) (by decide) (by decide +kernel)) (bL (p := 1801) (v := 0) (by decide) (by decide +kernel)) (bL (p := 1802) (v := 141) (by decide) (by decide +kernel)) (by decide), rfl⟩
theorem eL_law_1803 : dc mL_law 1803 (.iload 5) 2 1805 := ⟨d_iload (bL (p := 1803) (v := 21) (by decide) (by decide +kernel)) (bL (p := 1804) (v := 5) (by decide) (by decide +kernel)), rfl⟩
theorem eL_law_1805 : dc mL_law 1805 (.if_icmp .eq 5) 3 1808 := ⟨d_if_icmp_eq (bL (p := 1805) (v := 159) (by decide) (by decide +kernel)) (bL (p := 1806) (v := 0) (by decide) (by decide +kernel)) (bL (p := 1807) (v := 5) (by decide) (by decide +kernel)) (by decide +kernel), rfl⟩
theorem eL_law_1808 : dc mL_law 1808 (.iconst 0) 1 1809 := ⟨d_iconst_0 (bL (p := 1808) (v := 3) (by decide) (by decide +kernel)), rfl⟩
theorem eL_law_1809 : dc mL_law 1809 (.ireturn) 1 1810 := ⟨d_ireturn (bL (p := 1809) (v := 172) (by decide) (by decide +kernel)), rfl⟩
theorem eL_law_1810 : dc mL_law 1810 (.iload 5) 2 1812 := ⟨d_iload (bL (p := 1810) (v := 21) (by decide) (by decide +kernel)) (bL (p := 1811) (v := 5) (by decide) (by decide +kernel)), rfl⟩
theorem eL_law_1812 : dc mL_law 1812 (.ifCond .ne 15) 3 1815 := ⟨d_ifCond_ne (bL (p := 1812) (v := 154) (by decide) (by decide +kernel)) (bL (p := 1813) (v := 0) (by decide) (by decide +kernel)) (bL (p := 1814) (v := 15) (by decide) (by decide +kernel)) (by decide +kernel), rfl⟩
theorem eL_law_1815 : dc mL_law 1815 (.aload_n 3) 1 1816 := ⟨d_aload_3 (bL (p := 1815) (v := 45) (by decide) (by decide +kernel)), rfl⟩
theorem eL_law_1816 : dc mL_law 1816 (.iconst 0) 1 1817 := ⟨d_iconst_0 (bL (p := 1816) (v := 3) (by decide) (by decide +kernel)), rfl⟩
theorem eL_law_1817 : dc mL_law 1817 (.laload) 1 1818 := ⟨d_laload (bL (p := 1817) (v := 47) (by decide) (by decide +kernel)), rfl⟩
theorem eL_law_1818 : dc mL_law 1818 (.iload 6) 2 1820 := ⟨d_iload (bL (p := 1818) (v := 21) (by decide) (by decide +kernel)) (bL (p := 1819) (v := 6) (by decide) (by decide +kernel)), rfl⟩
theorem eL_law_1820 : dc mL_law 1820 (.i2l) 1 1821 := ⟨d_i2l (bL (p := 1820) (v := 133) (by decide) (by decide +kernel)), rfl⟩
theorem eL_law_1821 : dc mL_law 1821 (.lcmp) 1 1822 := ⟨d_lcmp (bL (p := 1821) (v := 148) (by decide) (by decide +kernel)), rfl⟩
theorem eL_law_1822 : dc mL_law 1822 (.ifCond .eq 5) 3 1825 := ⟨d_ifCond_eq (bL (p := 1822) (v := 153) (by decide) (by decide +kernel)) (bL (p := 1823) (v := 0) (by decide) (by decide +kernel)) (bL (p := 1824) (v := 5) (by decide) (by decide +kernel)) (by decide +kernel), rfl⟩
theorem eL_law_1825 : dc mL_law 1825 (.iconst 0) 1 1826 := ⟨d_iconst_0 (bL (p := 1825) (v := 3) (by decide) (by decide +kernel)), rfl⟩
theorem eL_law_1826 : dc mL_law 1826 (.ireturn) 1 1827 := ⟨d_ireturn (bL (p := 1826) (v := 172) (by decide) (by decide +kernel)), rfl⟩
theorem eL_law_1827 : dc mL_law 1827 (.goto 1525) 3 1830 := ⟨d_goto (bL (p := 1827) (v := 167) (by decide) (by decide +kernel)) (bL (p := 1828) (v := 5) (by decide) (by decide +kernel)) (bL (p := 1829) (v := 245) (by decide) (by decide +kernel)) (by decide +kernel), rfl⟩
theorem eL_law_1830 : dc mL_law 1830 (.aload_n 1) 1 1831 := ⟨d_aload_1 (bL (p := 1830) (v := 43) (by decide) (by decide +kernel)), rfl⟩
theorem eL_law_1831 : dc mL_law 1831 (.aload_n 0) 1 1832 := ⟨d_aload_0 (bL (p := 1831) (v := 42) (by decide) (by decide +kernel)), rfl⟩
theorem eL_law_1832 : dc mL_law 1832 (.iload 4) 2 1834 := ⟨d_iload (bL (p := 1832) (v := 21) (by decide) (by decide +kernel)) (bL (p := 1833) (v := 4) (by decide) (by decide +kernel)), rfl⟩
theorem eL_law_1834 : dc mL_law 1834 (.iconst 1) 1 1835 := ⟨d_iconst_1 (bL (p := 1834) (v := 4) (by decide) (by decide +kernel)), rfl⟩
theorem eL_law_1835 : dc mL_law 1835 (.iadd) 1 1836 := ⟨d_iadd (bL (p := 1835) (v := 96) (by decide) (by decide +kernel)), rfl⟩
theorem eL_law_1836 : dc mL_law 1836 (.iaload) 1 1837 := ⟨d_iaload (bL (p := 1836) (v := 46) (by decide) (by decide +kernel)), rfl⟩
theorem eL_law_1837 : dc mL_law 1837 (.aload_n 0) 1 1838 := ⟨d_aload_0 (bL (p := 1837) (v := 42) (by decide) (by decide +kernel)), rfl⟩
theorem eL_law_1838 : dc mL_law 1838 (.iload 4) 2 1840 := ⟨d_iload (bL (p := 1838) (v := 21) (by decide) (by decide +kernel)) (bL (p := 1839) (v := 4) (by decide) (by decide +kernel)), rfl⟩
theorem eL_law_1840 : dc mL_law 1840 (.iconst 2) 1 1841 := ⟨d_iconst_2 (bL (p := 1840) (v := 5) (by decide) (by decide +kernel)), rfl⟩
theorem eL_law_1841 : dc mL_law 1841 (.iadd) 1 1842 := ⟨d_iadd (bL (p := 1841) (v := 96) (by decide) (by decide +kernel)), rfl⟩
theorem eL_law_1842 : dc mL_law 1842 (.iaload) 1 1843 := ⟨d_iaload (bL (p := 1842) (v := 46) (by decide) (by decide +kernel)), rfl⟩
theorem eL_law_1843 : dc mL_law 1843 (.aload_n 0) 1 1844 := ⟨d_aload_0 (bL (p := 1843) (v := 42) (by decide) (by decide +kernel)), rfl⟩
theorem eL_law_1844 : dc mL_law 1844 (.iload 4) 2 1846 := ⟨d_iload (bL (p := 1844) (v := 21) (by decide) (by decide +kernel)) (bL (p := 1845) (v := 4) (by decide) (by decide +kernel)), rfl⟩
theorem eL_law_1846 : dc mL_law 1846 (.iconst 3) 1 1847 := ⟨d_iconst_3 (bL (p := 1846) (v := 6) (by decide) (by decide +kernel)), rfl⟩
theorem eL_law_1847 : dc mL_law 1847 (.iadd) 1 1848 := ⟨d_iadd (bL (p := 1847) (v := 96) (by decide) (by decide +kernel)), rfl⟩
theorem eL_law_1848 : dc mL_law 1848 (.iaload) 1 1849 := ⟨d_iaload (bL (p := 1848) (v := 46) (by decide) (by decide +kernel)), rfl⟩
theorem eL_law_1849 : dc mL_law 1849 (.aload_n 0) 1 1850 := ⟨d_aload_0 (bL (p := 1849) (v := 42) (by decide) (by decide +kernel)), rfl⟩
theorem eL_law_1850 : dc mL_law 1850 (.iload 4) 2 1852 := ⟨d_iload (bL (p := 1850) (v := 21) (by decide) (by decide +kernel)) (bL (p := 1851) (v := 4) (by decide) (by decide +kernel)), rfl⟩
theorem eL_law_1852 : dc mL_law 1852 (.iconst 4) 1 1853 := ⟨d_iconst_4 (bL (p := 1852) (v := 7) (by decide) (by decide +kernel)), rfl⟩
theorem eL_law_1853 : dc mL_law 1853 (.iadd) 1 1854 := ⟨d_iadd (bL (p := 1853) (v := 96) (by decide) (by decide +kernel)), rfl⟩
theorem eL_law_1854 : dc mL_law 1854 (.iaload) 1 1855 := ⟨d_iaload (bL (p := 1854) (v := 46) (by decide) (by decide +kernel)), rfl⟩
theorem eL_law_1855 : dc mL_law 1855 (.aload_n 3) 1 1856 := ⟨d_aload_3 (bL (p := 1855) (v := 45) (by decide) (by decide +kernel)), rfl⟩
theorem eL_law_1856 : dc mL_law 1856 (.invokestatic 211) 3 1859 := ⟨d_invokestatic (bL (p := 1856) (v := 184) (by decide) (by decide +kernel)) (bL (p := 1857) (v := 0) (by decide) (by decide +kernel)) (bL (p := 1858) (v := 211) (by decide) (by decide +kernel)) (by decide), rfl⟩
theorem eL_law_1859 : dc mL_law 1859 (.istore 5) 2 1861 := ⟨d_istore (bL (p := 1859) (v := 54) (by decide) (by decide +kernel)) (bL (p := 1860) (v := 5) (by decide) (by decide +kernel)), rfl⟩
theorem eL_law_1861 : dc mL_law 1861 (.aload_n 2) 1 1862 := ⟨d_aload_2 (bL (p := 1861) (v := 44) (by decide) (by decide +kernel)), rfl⟩
theorem eL_law_1862 : dc mL_law 1862 (.aload_n 0) 1 1863 := ⟨d_aload_0 (bL (p := 1862) (v := 42) (by decide) (by decide +kernel)), rfl⟩
theorem eL_law_1863 : dc mL_law 1863 (.iload 4) 2 1865 := ⟨d_iload (bL (p := 1863) (v := 21) (by decide) (by decide +kernel)) (bL (p := 1864) (v := 4) (by decide) (by decide +kernel)), rfl⟩
theorem eL_law_1865 : dc mL_law 1865 (.iconst 1) 1 1866 := ⟨d_iconst_1 (bL (p := 1865) (v := 4) (by decide) (by decide +kernel)), rfl⟩
theorem eL_law_1866 : dc mL_law 1866 (.iadd) 1 1867 := ⟨d_iadd (bL (p := 1866) (v := 96) (by decide) (by decide +kernel)), rfl⟩
theorem eL_law_1867 : dc mL_law 1867 (.iaload) 1 1868 := ⟨d_iaload (bL (p := 1867) (v := 46) (by decide) (by decide +kernel)), rfl⟩
theorem eL_law_1868 : dc mL_law 1868 (.aload_n 0) 1 1869 := ⟨d_aload_0 (bL (p := 1868) (v := 42) (by decide) (by decide +kernel)), rfl⟩
theorem eL_law_1869 : dc mL_law 1869 (.iload 4) 2 1871 := ⟨d_iload (bL (p := 1869) (v := 21) (by decide) (by decide +kernel)) (bL (p := 1870) (v := 4) (by decide) (by decide +kernel)), rfl⟩
theorem eL_law_1871 : dc mL_law 1871 (.iconst 2) 1 1872 := ⟨d_iconst_2 (bL (p := 1871) (v := 5) (by decide) (by decide +kernel)), rfl⟩
theorem eL_law_1872 : dc mL_law 1872 (.iadd) 1 1873 := ⟨d_iadd (bL (p := 1872) (v := 96) (by decide) (by decide +kernel)), rfl⟩
theorem eL_law_1873 : dc mL_law 1873 (.iaload) 1 1874 := ⟨d_iaload (bL (p := 1873) (v := 46) (by decide) (by decide +kernel)), rfl⟩
theorem eL_law_1874 : dc mL_law 1874 (.aload_n 0) 1 1875 := ⟨d_aload_0 (bL (p := 1874) (v := 42) (by decide) (by decide +kernel)), rfl⟩
theorem eL_law_1875 : dc mL_law 1875 (.iload 4) 2 1877 := ⟨d_iload (bL (p := 1875) (v := 21) (by decide) (by decide +kernel)) (bL (p := 1876) (v := 4) (by decide) (by decide +kernel)), rfl⟩
theorem eL_law_1877 : dc mL_law 1877 (.iconst 3) 1 1878 := ⟨d_iconst_3 (bL (p := 1877) (v := 6) (by decide) (by decide +kernel)), rfl⟩
theorem eL_law_1878 : dc mL_law 1878 (.iadd) 1 1879 := ⟨d_iadd (bL (p := 1878) (v := 96) (by decide) (by decide +kernel)), rfl⟩
theorem eL_law_1879 : dc mL_law 1879 (.iaload) 1 1880 := ⟨d_iaload (bL (p := 1879) (v := 46) (by decide) (by decide +kernel)), rfl⟩
theorem eL_law_1880 : dc mL_law 1880 (.aload_n 0) 1 1881 := ⟨d_aload_0 (bL (p := 1880) (v := 42) (by decide) (by decide +kernel)), rfl⟩
theorem eL_law_1881 : dc mL_law 1881 (.iload 4) 2 1883 := ⟨d_iload (bL (p := 1881) (v := 21) (by decide) (by decide +kernel)) (bL (p := 1882) (v := 4) (by decide) (by decide +kernel)), rfl⟩
theorem eL_law_1883 : dc mL_law 1883 (.iconst 4) 1 1884 := ⟨d_iconst_4 (bL (p := 1883) (v := 7) (by decide) (by decide +kernel)), rfl⟩
theorem eL_law_1884 : dc mL_law 1884 (.iadd) 1 1885 := ⟨d_iadd (bL (p := 1884) (v := 96) (by decide) (by decide +kernel)), rfl⟩
theorem eL_law_1885 : dc mL_law 1885 (.iaload) 1 1886 := ⟨d_iaload (bL (p := 1885) (v := 46) (by decide) (by decide +kernel)), rfl⟩
theorem eL_law_1886 : dc mL_law 1886 (.invokevirtual 213) 3 1889 := ⟨d_invokevirtual (bL (p := 1886) (v := 182) (by decide) (by decide +kernel)) (bL (p := 1887) (v := 0) (by decide) (by decide +kernel)) (bL (p := 1888) (v := 213) (by decide) (by decide +kernel)) (by decide), rfl⟩
theorem eL_law_1889 : dc mL_law 1889 (.istore 6) 2 1891 := ⟨d_istore (bL (p := 1889) (v := 54) (by decide) (by decide +kernel)) (bL (p := 1890) (v := 6) (by decide) (by decide +kernel)), rfl⟩
theorem eL_law_1891 : dc mL_law 1891 (.aload_n 2) 1 1892 := ⟨d_aload_2 (bL (p := 1891) (v := 44) (by decide) (by decide +kernel)), rfl⟩
theorem eL_law_1892 : dc mL_law 1892 (.invokevirtual 141) 3 1895 := ⟨d_invokevirtual (bL (p := 1892) (v := 182) (by decide) (by decide +kernel)) (bL (p := 1893) (v := 0) (by decide) (by decide +kernel)) (bL (p := 1894) (v := 141) (by decide) (by decide +kernel)) (by decide), rfl⟩
theorem eL_law_1895 : dc mL_law 1895 (.iload 5) 2 1897 := ⟨d_iload (bL (p := 1895) (v := 21) (by decide) (by decide +kernel)) (bL (p := 1896) (v := 5) (by decide) (by decide +kernel)), rfl⟩
theorem eL_law_1897 : dc mL_law 1897 (.if_icmp .eq 5) 3 1900 := ⟨d_if_icmp_eq (bL (p := 1897) (v := 159) (by decide) (by decide +kernel)) (bL (p := 1898) (v := 0) (by decide) (by decide +kernel)) (bL (p := 1899) (v := 5) (by decide) (by decide +kernel)) (by decide +kernel), rfl⟩
theorem eL_law_1900 : dc mL_law 1900 (.iconst 0) 1 1901 := ⟨d_iconst_0 (bL (p := 1900) (v := 3) (by decide) (by decide +kernel)), rfl⟩
theorem eL_law_1901 : dc mL_law 1901 (.ireturn) 1 1902 := ⟨d_ireturn (bL (p := 1901) (v := 172) (by decide) (by decide +kernel)), rfl⟩
theorem eL_law_1902 : dc mL_law 1902 (.iload 5) 2 1904 := ⟨d_iload (bL (p := 1902) (v := 21) (by decide) (by decide +kernel)) (bL (p := 1903) (v := 5) (by decide) (by decide +kernel)), rfl⟩
theorem eL_law_1904 : dc mL_law 1904 (.ifCond .ne 22) 3 1907 := ⟨d_ifCond_ne (bL (p := 1904) (v := 154) (by decide) (by decide +kernel)) (bL (p := 1905) (v := 0) (by decide) (by decide +kernel)) (bL (p := 1906) (v := 22) (by decide) (by decide +kernel)) (by decide +kernel), rfl⟩
theorem eL_law_1907 : dc mL_law 1907 (.aload_n 3) 1 1908 := ⟨d_aload_3 (bL (p := 1907) (v := 45) (by decide) (by decide +kernel)), rfl⟩
theorem eL_law_1908 : dc mL_law 1908 (.iconst 0) 1 1909 := ⟨d_iconst_0 (bL (p := 1908) (v := 3) (by decide) (by decide +kernel)), rfl⟩
theorem eL_law_1909 : dc mL_law 1909 (.laload) 1 1910 := ⟨d_laload (bL (p := 1909) (v := 47) (by decide) (by decide +kernel)), rfl⟩
theorem eL_law_1910 : dc mL_law 1910 (.iload 6) 2 1912 := ⟨d_iload (bL (p := 1910) (v := 21) (by decide) (by decide +kernel)) (bL (p := 1911) (v := 6) (by decide) (by decide +kernel)), rfl⟩
theorem eL_law_1912 : dc mL_law 1912 (.ifCond .eq 7) 3 1915 := ⟨d_ifCond_eq (bL (p := 1912) (v := 153) (by decide) (by decide +kernel)) (bL (p := 1913) (v := 0) (by decide) (by decide +kernel)) (bL (p := 1914) (v := 7) (by decide) (by decide +kernel)) (by decide +kernel), rfl⟩
theorem eL_law_1915 : dc mL_law 1915 (.lconst 1) 1 1916 := ⟨d_lconst_1 (bL (p := 1915) (v := 10) (by decide) (by decide +kernel)), rfl⟩
theorem eL_law_1916 : dc mL_law 1916 (.goto 4) 3 1919 := ⟨d_goto (bL (p := 1916) (v := 167) (by decide) (by decide +kernel)) (bL (p := 1917) (v := 0) (by decide) (by decide +kernel)) (bL (p := 1918) (v := 4) (by decide) (by decide +kernel)) (by decide +kernel), rfl⟩
theorem eL_law_1919 : dc mL_law 1919 (.lconst 0) 1 1920 := ⟨d_lconst_0 (bL (p := 1919) (v := 9) (by decide) (by decide +kernel)), rfl⟩
theorem eL_law_1920 : dc mL_law 1920 (.lcmp) 1 1921 := ⟨d_lcmp (bL (p := 1920) (v := 148) (by decide) (by decide +kernel)), rfl⟩
theorem eL_law_1921 : dc mL_law 1921 (.ifCond .eq 5) 3 1924 := ⟨d_ifCond_eq (bL (p := 1921) (v := 153) (by decide) (by decide +kernel)) (bL (p := 1922) (v := 0) (by decide) (by decide +kernel)) (bL (p := 1923) (v := 5) (by decide) (by decide +kernel)) (by decide +kernel), rfl⟩
theorem eL_law_1924 : dc mL_law 1924 (.iconst 0) 1 1925 := ⟨d_iconst_0 (bL (p := 1924) (v := 3) (by decide) (by decide +kernel)), rfl⟩
theorem eL_law_1925 : dc mL_law 1925 (.ireturn) 1 1926 := ⟨d_ireturn (bL (p := 1925) (v := 172) (by decide) (by decide +kernel)), rfl⟩
theorem eL_law_1926 : dc mL_law 1926 (.goto 1426) 3 1929 := ⟨d_goto (bL (p := 1926) (v := 167) (by decide) (by decide +kernel)) (bL (p := 1927) (v := 5) (by decide) (by decide +kernel)) (bL (p := 1928) (v := 146) (by decide) (by decide +kernel)) (by decide +kernel), rfl⟩
theorem eL_law_1929 : dc mL_law 1929 (.aload_n 1) 1 1930 := ⟨d_aload_1 (bL (p := 1929) (v := 43) (by decide) (by decide +kernel)), rfl⟩
theorem eL_law_1930 : dc mL_law 1930 (.aload_n 0) 1 1931 := ⟨d_aload_0 (bL (p := 1930) (v := 42) (by decide) (by decide +kernel)), rfl⟩
theorem eL_law_1931 : dc mL_law 1931 (.iload 4) 2 1933 := ⟨d_iload (bL (p := 1931) (v := 21) (by decide) (by decide +kernel)) (bL (p := 1932) (v := 4) (by decide) (by decide +kernel)), rfl⟩
theorem eL_law_1933 : dc mL_law 1933 (.iconst 1) 1 1934 := ⟨d_iconst_1 (bL (p := 1933) (v := 4) (by decide) (by decide +kernel)), rfl⟩
theorem eL_law_1934 : dc mL_law 1934 (.iadd) 1 1935 := ⟨d_iadd (bL (p := 1934) (v := 96) (by decide) (by decide +kernel)), rfl⟩
theorem eL_law_1935 : dc mL_law 1935 (.iaload) 1 1936 := ⟨d_iaload (bL (p := 1935) (v := 46) (by decide) (by decide +kernel)), rfl⟩
theorem eL_law_1936 : dc mL_law 1936 (.aload_n 0) 1 1937 := ⟨d_aload_0 (bL (p := 1936) (v := 42) (by decide) (by decide +kernel)), rfl⟩
theorem eL_law_1937 : dc mL_law 1937 (.iload 4) 2 1939 := ⟨d_iload (bL (p := 1937) (v := 21) (by decide) (by decide +kernel)) (bL (p := 1938) (v := 4) (by decide) (by decide +kernel)), rfl⟩
theorem eL_law_1939 : dc mL_law 1939 (.iconst 2) 1 1940 := ⟨d_iconst_2 (bL (p := 1939) (v := 5) (by decide) (by decide +kernel)), rfl⟩
theorem eL_law_1940 : dc mL_law 1940 (.iadd) 1 1941 := ⟨d_iadd (bL (p := 1940) (v := 96) (by decide) (by decide +kernel)), rfl⟩
theorem eL_law_1941 : dc mL_law 1941 (.iaload) 1 1942 := ⟨d_iaload (bL (p := 1941) (v := 46) (by decide) (by decide +kernel)), rfl⟩
theorem eL_law_1942 : dc mL_law 1942 (.aload_n 0) 1 1943 := ⟨d_aload_0 (bL (p := 1942) (v := 42) (by decide) (by decide +kernel)), rfl⟩
theorem eL_law_1943 : dc mL_law 1943 (.iload 4) 2 1945 := ⟨d_iload (bL (p := 1943) (v := 21) (by decide) (by decide +kernel)) (bL (p := 1944) (v := 4) (by decide) (by decide +kernel)), rfl⟩
theorem eL_law_1945 : dc mL_law 1945 (.iconst 3) 1 1946 := ⟨d_iconst_3 (bL (p := 1945) (v := 6) (by decide) (by decide +kernel)), rfl⟩
theorem eL_law_1946 : dc mL_law 1946 (.iadd) 1 1947 := ⟨d_iadd (bL (p := 1946) (v := 96) (by decide) (by decide +kernel)), rfl⟩
theorem eL_law_1947 : dc mL_law 1947 (.iaload) 1 1948 := ⟨d_iaload (bL (p := 1947) (v := 46) (by decide) (by decide +kernel)), rfl⟩
theorem eL_law_1948 : dc mL_law 1948 (.aload_n 0) 1 1949 := ⟨d_aload_0 (bL (p := 1948) (v := 42) (by decide) (by decide +kernel)), rfl⟩
theorem eL_law_1949 : dc mL_law 1949 (.iload 4) 2 1951 := ⟨d_iload (bL (p := 1949) (v := 21) (by decide) (by decide +kernel)) (bL (p := 1950) (v := 4) (by decide) (by decide +kernel)), rfl⟩
theorem eL_law_1951 : dc mL_law 1951 (.iconst 4) 1 1952 := ⟨d_iconst_4 (bL (p := 1951) (v := 7) (by decide) (by decide +kernel)), rfl⟩
theorem eL_law_1952 : dc mL_law 1952 (.iadd) 1 1953 := ⟨d_iadd (bL (p := 1952) (v := 96) (by decide) (by decide +kernel)), rfl⟩
theorem eL_law_1953 : dc mL_law 1953 (.iaload) 1 1954 := ⟨d_iaload (bL (p := 1953) (v := 46) (by decide) (by decide +kernel)), rfl⟩
theorem eL_law_1954 : dc mL_law 1954 (.aload_n 0) 1 1955 := ⟨d_aload_0 (bL (p := 1954) (v := 42) (by decide) (by decide +kernel)), rfl⟩
theorem eL_law_1955 : dc mL_law 1955 (.iload 4) 2 1957 := ⟨d_iload (bL (p := 1955) (v := 21) (by decide) (by decide +kernel)) (bL (p := 1956) (v := 4) (by decide) (by decide +kernel)), rfl⟩
theorem eL_law_1957 : dc mL_law 1957 (.iconst 5) 1 1958 := ⟨d_iconst_5 (bL (p := 1957) (v := 8) (by decide) (by decide +kernel)), rfl⟩
theorem eL_law_1958 : dc mL_law 1958 (.iadd) 1 1959 := ⟨d_iadd (bL (p := 1958) (v := 96) (by decide) (by decide +kernel)), rfl⟩
theorem eL_law_1959 : dc mL_law 1959 (.iaload) 1 1960 := ⟨d_iaload (bL (p := 1959) (v := 46) (by decide) (by decide +kernel)), rfl⟩
theorem eL_law_1960 : dc mL_law 1960 (.aload_n 3) 1 1961 := ⟨d_aload_3 (bL (p := 1960) (v := 45) (by decide) (by decide +kernel)), rfl⟩
theorem eL_law_1961 : dc mL_law 1961 (.invokestatic 214) 3 1964 := ⟨d_invokestatic (bL (p := 1961) (v := 184) (by decide) (by decide +kernel)) (bL (p := 1962) (v := 0) (by decide) (by decide +kernel)) (bL (p := 1963) (v := 214) (by decide) (by decide +kernel)) (by decide), rfl⟩
theorem eL_law_1964 : dc mL_law 1964 (.istore 5) 2 1966 := ⟨d_istore (bL (p := 1964) (v := 54) (by decide) (by decide +kernel)) (bL (p := 1965) (v := 5) (by decide) (by decide +kernel)), rfl⟩
theorem eL_law_1966 : dc mL_law 1966 (.aload_n 2) 1 1967 := ⟨d_aload_2 (bL (p := 1966) (v := 44) (by decide) (by decide +kernel)), rfl⟩
theorem eL_law_1967 : dc mL_law 1967 (.aload_n 0) 1 1968 := ⟨d_aload_0 (bL (p := 1967) (v := 42) (by decide) (by decide +kernel)), rfl⟩
theorem eL_law_1968 : dc mL_law 1968 (.iload 4) 2 1970 := ⟨d_iload (bL (p := 1968) (v := 21) (by decide) (by decide +kernel)) (bL (p := 1969) (v := 4) (by decide) (by decide +kernel)), rfl⟩
theorem eL_law_1970 : dc mL_law 1970 (.iconst 1) 1 1971 := ⟨d_iconst_1 (bL (p := 1970) (v := 4) (by decide) (by decide +kernel)), rfl⟩
theorem eL_law_1971 : dc mL_law 1971 (.iadd) 1 1972 := ⟨d_iadd (bL (p := 1971) (v := 96) (by decide) (by decide +kernel)), rfl⟩
theorem eL_law_1972 : dc mL_law 1972 (.iaload) 1 1973 := ⟨d_iaload (bL (p := 1972) (v := 46) (by decide) (by decide +kernel)), rfl⟩
theorem eL_law_1973 : dc mL_law 1973 (.aload_n 0) 1 1974 := ⟨d_aload_0 (bL (p := 1973) (v := 42) (by decide) (by decide +kernel)), rfl⟩
theorem eL_law_1974 : dc mL_law 1974 (.iload 4) 2 1976 := ⟨d_iload (bL (p := 1974) (v := 21) (by decide) (by decide +kernel)) (bL (p := 1975) (v := 4) (by decide) (by decide +kernel)), rfl⟩
theorem eL_law_1976 : dc mL_law 1976 (.iconst 2) 1 1977 := ⟨d_iconst_2 (bL (p := 1976) (v := 5) (by decide) (by decide +kernel)), rfl⟩
theorem eL_law_1977 : dc mL_law 1977 (.iadd) 1 1978 := ⟨d_iadd (bL (p := 1977) (v := 96) (by decide) (by decide +kernel)), rfl⟩
theorem eL_law_1978 : dc mL_law 1978 (.iaload) 1 1979 := ⟨d_iaload (bL (p := 1978) (v := 46) (by decide) (by decide +kernel)), rfl⟩
theorem eL_law_1979 : dc mL_law 1979 (.aload_n 0) 1 1980 := ⟨d_aload_0 (bL (p := 1979) (v := 42) (by decide) (by decide +kernel)), rfl⟩
theorem eL_law_1980 : dc mL_law 1980 (.iload 4) 2 1982 := ⟨d_iload (bL (p := 1980) (v := 21) (by decide) (by decide +kernel)) (bL (p := 1981) (v := 4) (by decide) (by decide +kernel)), rfl⟩
theorem eL_law_1982 : dc mL_law 1982 (.iconst 3) 1 1983 := ⟨d_iconst_3 (bL (p := 1982) (v := 6) (by decide) (by decide +kernel)), rfl⟩
theorem eL_law_1983 : dc mL_law 1983 (.iadd) 1 1984 := ⟨d_iadd (bL (p := 1983) (v := 96) (by decide) (by decide +kernel)), rfl⟩
theorem eL_law_1984 : dc mL_law 1984 (.iaload) 1 1985 := ⟨d_iaload (bL (p := 1984) (v := 46) (by decide) (by decide +kernel)), rfl⟩
theorem eL_law_1985 : dc mL_law 1985 (.aload_n 0) 1 1986 := ⟨d_aload_0 (bL (p := 1985) (v := 42) (by decide) (by decide +kernel)), rfl⟩
theorem eL_law_1986 : dc mL_law 1986 (.iload 4) 2 1988 := ⟨d_iload (bL (p := 1986) (v := 21) (by decide) (by decide +kernel)) (bL (p := 1987) (v := 4) (by decide) (by decide +kernel)), rfl⟩
theorem eL_law_1988 : dc mL_law 1988 (.iconst 4) 1 1989 := ⟨d_iconst_4 (bL (p := 1988) (v := 7) (by decide) (by decide +kernel)), rfl⟩
theorem eL_law_1989 : dc mL_law 1989 (.iadd) 1 1990 := ⟨d_iadd (bL (p := 1989) (v := 96) (by decide) (by decide +kernel)), rfl⟩
theorem eL_law_1990 : dc mL_law 1990 (.iaload) 1 1991 := ⟨d_iaload (bL (p := 1990) (v := 46) (by decide) (by decide +kernel)), rfl⟩
theorem eL_law_1991 : dc mL_law 1991 (.aload_n 0) 1 1992 := ⟨d_aload_0 (bL (p := 1991) (v := 42) (by decide) (by decide +kernel)), rfl⟩
theorem eL_law_1992 : dc mL_law 1992 (.iload 4) 2 1994 := ⟨d_iload (bL (p := 1992) (v := 21) (by decide) (by decide +kernel)) (bL (p := 1993) (v := 4) (by decide) (by decide +kernel)), rfl⟩
theorem eL_law_1994 : dc mL_law 1994 (.iconst 5) 1 1995 := ⟨d_iconst_5 (bL (p := 1994) (v := 8) (by decide) (by decide +kernel)), rfl⟩
theorem eL_law_1995 : dc mL_law 1995 (.iadd) 1 1996 := ⟨d_iadd (bL (p := 1995) (v := 96) (by decide) (by decide +kernel)), rfl⟩
theorem eL_law_1996 : dc mL_law 1996 (.iaload) 1 1997 := ⟨d_iaload (bL (p := 1996) (v := 46) (by decide) (by decide +kernel)), rfl⟩
theorem eL_law_1997 : dc mL_law 1997 (.invokevirtual 216) 3 2000 := ⟨d_invokevirtual (bL (p := 1997) (v := 182) (by decide) (by decide +kernel)) (bL (p := 1998) (v := 0) (by decide) (by decide +kernel)) (bL (p := 1999) (v := 216) (by decide) (by decide +kernel)) (by decide), rfl⟩
theorem eL_law_2000 : dc mL_law 2000 (.istore 6) 2 2002 := ⟨d_istore (bL (p := 2000) (v := 54) (by decide) (by decide +kernel)) (bL (p := 2001) (v := 6) (by decide) (by decide +kernel)), rfl⟩
theorem eL_law_2002 : dc mL_law 2002 (.aload_n 2) 1 2003 := ⟨d_aload_2 (bL (p := 2002) (v := 44) (by decide) (by decide +kernel)), rfl⟩
theorem eL_law_2003 : dc mL_law 2003 (.invokevirtual 141) 3 2006 := ⟨d_invokevirtual (bL (p := 2003) (v := 182) (by decide) (by decide +kernel)) (bL (p := 2004) (v := 0) (by decide) (by decide +kernel)) (bL (p := 2005) (v := 141) (by decide) (by decide +kernel)) (by decide), rfl⟩
theorem eL_law_2006 : dc mL_law 2006 (.iload 5) 2 2008 := ⟨d_iload (bL (p := 2006) (v := 21) (by decide) (by decide +kernel)) (bL (p := 2007) (v := 5) (by decide) (by decide +kernel)), rfl⟩
theorem eL_law_2008 : dc mL_law 2008 (.if_icmp .eq 5) 3 2011 := ⟨d_if_icmp_eq (bL (p := 2008) (v := 159) (by decide) (by decide +kernel)) (bL (p := 2009) (v := 0) (by decide) (by decide +kernel)) (bL (p := 2010) (v := 5) (by decide) (by decide +kernel)) (by decide +kernel), rfl⟩
theorem eL_law_2011 : dc mL_law 2011 (.iconst 0) 1 2012 := ⟨d_iconst_0 (bL (p := 2011) (v := 3) (by decide) (by decide +kernel)), rfl⟩
theorem eL_law_2012 : dc mL_law 2012 (.ireturn) 1 2013 := ⟨d_ireturn (bL (p := 2012) (v := 172) (by decide) (by decide +kernel)), rfl⟩
theorem eL_law_2013 : dc mL_law 2013 (.iload 5) 2 2015 := ⟨d_iload (bL (p := 2013) (v := 21) (by decide) (by decide +kernel)) (bL (p := 2014) (v := 5) (by decide) (by decide +kernel)), rfl⟩
theorem eL_law_2015 : dc mL_law 2015 (.ifCond .ne 15) 3 2018 := ⟨d_ifCond_ne (bL (p := 2015) (v := 154) (by decide) (by decide +kernel)) (bL (p := 2016) (v := 0) (by decide) (by decide +kernel)) (bL (p := 2017) (v := 15) (by decide) (by decide +kernel)) (by decide +kernel), rfl⟩
theorem eL_law_2018 : dc mL_law 2018 (.aload_n 3) 1 2019 := ⟨d_aload_3 (bL (p := 2018) (v := 45) (by decide) (by decide +kernel)), rfl⟩
theorem eL_law_2019 : dc mL_law 2019 (.iconst 0) 1 2020 := ⟨d_iconst_0 (bL (p := 2019) (v := 3) (by decide) (by decide +kernel)), rfl⟩
theorem eL_law_2020 : dc mL_law 2020 (.laload) 1 2021 := ⟨d_laload (bL (p := 2020) (v := 47) (by decide) (by decide +kernel)), rfl⟩
theorem eL_law_2021 : dc mL_law 2021 (.iload 6) 2 2023 := ⟨d_iload (bL (p := 2021) (v := 21) (by decide) (by decide +kernel)) (bL (p := 2022) (v := 6) (by decide) (by decide +kernel)), rfl⟩
theorem eL_law_2023 : dc mL_law 2023 (.i2l) 1 2024 := ⟨d_i2l (bL (p := 2023) (v := 133) (by decide) (by decide +kernel)), rfl⟩
theorem eL_law_2024 : dc mL_law 2024 (.lcmp) 1 2025 := ⟨d_lcmp (bL (p := 2024) (v := 148) (by decide) (by decide +kernel)), rfl⟩
theorem eL_law_2025 : dc mL_law 2025 (.ifCond .eq 5) 3 2028 := ⟨d_ifCond_eq (bL (p := 2025) (v := 153) (by decide) (by decide +kernel)) (bL (p := 2026) (v := 0) (by decide) (by decide +kernel)) (bL (p := 2027) (v := 5) (by decide) (by decide +kernel)) (by decide +kernel), rfl⟩
theorem eL_law_2028 : dc mL_law 2028 (.iconst 0) 1 2029 := ⟨d_iconst_0 (bL (p := 2028) (v := 3) (by decide) (by decide +kernel)), rfl⟩
theorem eL_law_2029 : dc mL_law 2029 (.ireturn) 1 2030 := ⟨d_ireturn (bL (p := 2029) (v := 172) (by decide) (by decide +kernel)), rfl⟩
theorem eL_law_2030 : dc mL_law 2030 (.goto 1322) 3 2033 := ⟨d_goto (bL (p := 2030) (v := 167) (by decide) (by decide +kernel)) (bL (p := 2031) (v := 5) (by decide) (by decide +kernel)) (bL (p := 2032) (v := 42) (by decide) (by decide +kernel)) (by decide +kernel), rfl⟩
theorem eL_law_2033 : dc mL_law 2033 (.aload_n 1) 1 2034 := ⟨d_aload_1 (bL (p := 2033) (v := 43) (by decide) (by decide +kernel)), rfl⟩
theorem eL_law_2034 : dc mL_law 2034 (.aload_n 0) 1 2035 := ⟨d_aload_0 (bL (p := 2034) (v := 42) (by decide) (by decide +kernel)), rfl⟩
theorem eL_law_2035 : dc mL_law 2035 (.iload 4) 2 2037 := ⟨d_iload (bL (p := 2035) (v := 21) (by decide) (by decide +kernel)) (bL (p := 2036) (v := 4) (by decide) (by decide +kernel)), rfl⟩
theorem eL_law_2037 : dc mL_law 2037 (.iconst 1) 1 2038 := ⟨d_iconst_1 (bL (p := 2037) (v := 4) (by decide) (by decide +kernel)), rfl⟩
theorem eL_law_2038 : dc mL_law 2038 (.iadd) 1 2039 := ⟨d_iadd (bL (p := 2038) (v := 96) (by decide) (by decide +kernel)), rfl⟩
theorem eL_law_2039 : dc mL_law 2039 (.iaload) 1 2040 := ⟨d_iaload (bL (p := 2039) (v := 46) (by decide) (by decide +kernel)), rfl⟩
theorem eL_law_2040 : dc mL_law 2040 (.aload_n 0) 1 2041 := ⟨d_aload_0 (bL (p := 2040) (v := 42) (by decide) (by decide +kernel)), rfl⟩
theorem eL_law_2041 : dc mL_law 2041 (.iload 4) 2 2043 := ⟨d_iload (bL (p := 2041) (v := 21) (by decide) (by decide +kernel)) (bL (p := 2042) (v := 4) (by decide) (by decide +kernel)), rfl⟩
theorem eL_law_2043 : dc mL_law 2043 (.iconst 2) 1 2044 := ⟨d_iconst_2 (bL (p := 2043) (v := 5) (by decide) (by decide +kernel)), rfl⟩
theorem eL_law_2044 : dc mL_law 2044 (.iadd) 1 2045 := ⟨d_iadd (bL (p := 2044) (v := 96) (by decide) (by decide +kernel)), rfl⟩
theorem eL_law_2045 : dc mL_law 2045 (.iaload) 1 2046 := ⟨d_iaload (bL (p := 2045) (v := 46) (by decide) (by decide +kernel)), rfl⟩
theorem eL_law_2046 : dc mL_law 2046 (.aload_n 0) 1 2047 := ⟨d_aload_0 (bL (p := 2046) (v := 42) (by decide) (by decide +kernel)), rfl⟩
theorem eL_law_2047 : dc mL_law 2047 (.iload 4) 2 2049 := ⟨d_iload (bL (p := 2047) (v := 21) (by decide) (by decide +kernel)) (bL (p := 2048) (v := 4) (by decide) (by decide +kernel)), rfl⟩
theorem eL_law_2049 : dc mL_law 2049 (.iconst 3) 1 2050 := ⟨d_iconst_3 (bL (p := 2049) (v := 6) (by decide) (by decide +kernel)), rfl⟩
theorem eL_law_2050 : dc mL_law 2050 (.iadd) 1 2051 := ⟨d_iadd (bL (p := 2050) (v := 96) (by decide) (by decide +kernel)), rfl⟩
theorem eL_law_2051 : dc mL_law 2051 (.iaload) 1 2052 := ⟨d_iaload (bL (p := 2051) (v := 46) (by decide) (by decide +kernel)), rfl⟩
theorem eL_law_2052 : dc mL_law 2052 (.aload_n 0) 1 2053 := ⟨d_aload_0 (bL (p := 2052) (v := 42) (by decide) (by decide +kernel)), rfl⟩
theorem eL_law_2053 : dc mL_law 2053 (.iload 4) 2 2055 := ⟨d_iload (bL (p := 2053) (v := 21) (by decide) (by decide +kernel)) (bL (p := 2054) (v := 4) (by decide) (by decide +kernel)), rfl⟩
theorem eL_law_2055 : dc mL_law 2055 (.iconst 4) 1 2056 := ⟨d_iconst_4 (bL (p := 2055) (v := 7) (by decide) (by decide +kernel)), rfl⟩
theorem eL_law_2056 : dc mL_law 2056 (.iadd) 1 2057 := ⟨d_iadd (bL (p := 2056) (v := 96) (by decide) (by decide +kernel)), rfl⟩
theorem eL_law_2057 : dc mL_law 2057 (.iaload) 1 2058 := ⟨d_iaload (bL (p := 2057) (v := 46) (by decide) (by decide +kernel)), rfl⟩
theorem eL_law_2058 : dc mL_law 2058 (.aload_n 3) 1 2059 := ⟨d_aload_3 (bL (p := 2058) (v := 45) (by decide) (by decide +kernel)), rfl⟩
theorem eL_law_2059 : dc mL_law 2059 (.invokestatic 217) 3 2062 := ⟨d_invokestatic (bL (p := 2059) (v := 184) (by decide) (by decide +kernel)) (bL (p := 2060) (v := 0) (by decide) (by decide +kernel)) (bL (p := 2061) (v := 217) (by decide) (by decide +kernel)) (by decide), rfl⟩
theorem eL_law_2062 : dc mL_law 2062 (.istore 5) 2 2064 := ⟨d_istore (bL (p := 2062) (v := 54) (by decide) (by decide +kernel)) (bL (p := 2063) (v := 5) (by decide) (by decide +kernel)), rfl⟩
theorem eL_law_2064 : dc mL_law 2064 (.aload_n 2) 1 2065 := ⟨d_aload_2 (bL (p := 2064) (v := 44) (by decide) (by decide +kernel)), rfl⟩
theorem eL_law_2065 : dc mL_law 2065 (.aload_n 0) 1 2066 := ⟨d_aload_0 (bL (p := 2065) (v := 42) (by decide) (by decide +kernel)), rfl⟩
theorem eL_law_2066 : dc mL_law 2066 (.iload 4) 2 2068 := ⟨d_iload (bL (p := 2066) (v := 21) (by decide) (by decide +kernel)) (bL (p := 2067) (v := 4) (by decide) (by decide +kernel)), rfl⟩
theorem eL_law_2068 : dc mL_law 2068 (.iconst 1) 1 2069 := ⟨d_iconst_1 (bL (p := 2068) (v := 4) (by decide) (by decide +kernel)), rfl⟩
theorem eL_law_2069 : dc mL_law 2069 (.iadd) 1 2070 := ⟨d_iadd (bL (p := 2069) (v := 96) (by decide) (by decide +kernel)), rfl⟩
theorem eL_law_2070 : dc mL_law 2070 (.iaload) 1 2071 := ⟨d_iaload (bL (p := 2070) (v := 46) (by decide) (by decide +kernel)), rfl⟩
theorem eL_law_2071 : dc mL_law 2071 (.aload_n 0) 1 2072 := ⟨d_aload_0 (bL (p := 2071) (v := 42) (by decide) (by decide +kernel)), rfl⟩
theorem eL_law_2072 : dc mL_law 2072 (.iload 4) 2 2074 := ⟨d_iload (bL (p := 2072) (v := 21) (by decide) (by decide +kernel)) (bL (p := 2073) (v := 4) (by decide) (by decide +kernel)), rfl⟩
theorem eL_law_2074 : dc mL_law 2074 (.iconst 2) 1 2075 := ⟨d_iconst_2 (bL (p := 2074) (v := 5) (by decide) (by decide +kernel)), rfl⟩
theorem eL_law_2075 : dc mL_law 2075 (.iadd) 1 2076 := ⟨d_iadd (bL (p := 2075) (v := 96) (by decide) (by decide +kernel)), rfl⟩
theorem eL_law_2076 : dc mL_law 2076 (.iaload) 1 2077 := ⟨d_iaload (bL (p := 2076) (v := 46) (by decide) (by decide +kernel)), rfl⟩
theorem eL_law_2077 : dc mL_law 2077 (.aload_n 0) 1 2078 := ⟨d_aload_0 (bL (p := 2077) (v := 42) (by decide) (by decide +kernel)), rfl⟩
theorem eL_law_2078 : dc mL_law 2078 (.iload 4) 2 2080 := ⟨d_iload (bL (p := 2078) (v := 21) (by decide) (by decide +kernel)) (bL (p := 2079) (v := 4) (by decide) (by decide +kernel)), rfl⟩
theorem eL_law_2080 : dc mL_law 2080 (.iconst 3) 1 2081 := ⟨d_iconst_3 (bL (p := 2080) (v := 6) (by decide) (by decide +kernel)), rfl⟩
theorem eL_law_2081 : dc mL_law 2081 (.iadd) 1 2082 := ⟨d_iadd (bL (p := 2081) (v := 96) (by decide) (by decide +kernel)), rfl⟩
theorem eL_law_2082 : dc mL_law 2082 (.iaload) 1 2083 := ⟨d_iaload (bL (p := 2082) (v := 46) (by decide) (by decide +kernel)), rfl⟩
theorem eL_law_2083 : dc mL_law 2083 (.aload_n 0) 1 2084 := ⟨d_aload_0 (bL (p := 2083) (v := 42) (by decide) (by decide +kernel)), rfl⟩
theorem eL_law_2084 : dc mL_law 2084 (.iload 4) 2 2086 := ⟨d_iload (bL (p := 2084) (v := 21) (by decide) (by decide +kernel)) (bL (p := 2085) (v := 4) (by decide) (by decide +kernel)), rfl⟩
theorem eL_law_2086 : dc mL_law 2086 (.iconst 4) 1 2087 := ⟨d_iconst_4 (bL (p := 2086) (v := 7) (by decide) (by decide +kernel)), rfl⟩
theorem eL_law_2087 : dc mL_law 2087 (.iadd) 1 2088 := ⟨d_iadd (bL (p := 2087) (v := 96) (by decide) (by decide +kernel)), rfl⟩
theorem eL_law_2088 : dc mL_law 2088 (.iaload) 1 2089 := ⟨d_iaload (bL (p := 2088) (v := 46) (by decide) (by decide +kernel)), rfl⟩
theorem eL_law_2089 : dc mL_law 2089 (.invokevirtual 219) 3 2092 := ⟨d_invokevirtual (bL (p := 2089) (v := 182) (by decide) (by decide +kernel)) (bL (p := 2090) (v := 0) (by decide) (by decide +kernel)) (bL (p := 2091) (v := 219) (by decide) (by decide +kernel)) (by decide), rfl⟩
theorem eL_law_2092 : dc mL_law 2092 (.istore 6) 2 2094 := ⟨d_istore (bL (p := 2092) (v := 54) (by decide) (by decide +kernel)) (bL (p := 2093) (v := 6) (by decide) (by decide +kernel)), rfl⟩
theorem eL_law_2094 : dc mL_law 2094 (.aload_n 2) 1 2095 := ⟨d_aload_2 (bL (p := 2094) (v := 44) (by decide) (by decide +kernel)), rfl⟩
theorem eL_law_2095 : dc mL_law 2095 (.invokevirtual 141) 3 2098 := ⟨d_invokevirtual (bL (p := 2095) (v := 182) (by decide) (by decide +kernel)) (bL (p := 2096) (v := 0) (by decide) (by decide +kernel)) (bL (p := 2097) (v := 141) (by decide) (by decide +kernel)) (by decide), rfl⟩
theorem eL_law_2098 : dc mL_law 2098 (.iload 5) 2 2100 := ⟨d_iload (bL (p := 2098) (v := 21) (by decide) (by decide +kernel)) (bL (p := 2099) (v := 5) (by decide) (by decide +kernel)), rfl⟩
theorem eL_law_2100 : dc mL_law 2100 (.if_icmp .eq 5) 3 2103 := ⟨d_if_icmp_eq (bL (p := 2100) (v := 159) (by decide) (by decide +kernel)) (bL (p := 2101) (v := 0) (by decide) (by decide +kernel)) (bL (p := 2102) (v := 5) (by decide) (by decide +kernel)) (by decide +kernel), rfl⟩
theorem eL_law_2103 : dc mL_law 2103 (.iconst 0) 1 2104 := ⟨d_iconst_0 (bL (p := 2103) (v := 3) (by decide) (by decide +kernel)), rfl⟩
theorem eL_law_2104 : dc mL_law 2104 (.ireturn) 1 2105 := ⟨d_ireturn (bL (p := 2104) (v := 172) (by decide) (by decide +kernel)), rfl⟩
theorem eL_law_2105 : dc mL_law 2105 (.iload 5) 2 2107 := ⟨d_iload (bL (p := 2105) (v := 21) (by decide) (by decide +kernel)) (bL (p := 2106) (v := 5) (by decide) (by decide +kernel)), rfl⟩
theorem eL_law_2107 : dc mL_law 2107 (.ifCond .ne 15) 3 2110 := ⟨d_ifCond_ne (bL (p := 2107) (v := 154) (by decide) (by decide +kernel)) (bL (p := 2108) (v := 0) (by decide) (by decide +kernel)) (bL (p := 2109) (v := 15) (by decide) (by decide +kernel)) (by decide +kernel), rfl⟩
theorem eL_law_2110 : dc mL_law 2110 (.aload_n 3) 1 2111 := ⟨d_aload_3 (bL (p := 2110) (v := 45) (by decide) (by decide +kernel)), rfl⟩
theorem eL_law_2111 : dc mL_law 2111 (.iconst 0) 1 2112 := ⟨d_iconst_0 (bL (p := 2111) (v := 3) (by decide) (by decide +kernel)), rfl⟩
theorem eL_law_2112 : dc mL_law 2112 (.laload) 1 2113 := ⟨d_laload (bL (p := 2112) (v := 47) (by decide) (by decide +kernel)), rfl⟩
theorem eL_law_2113 : dc mL_law 2113 (.iload 6) 2 2115 := ⟨d_iload (bL (p := 2113) (v := 21) (by decide) (by decide +kernel)) (bL (p := 2114) (v := 6) (by decide) (by decide +kernel)), rfl⟩
theorem eL_law_2115 : dc mL_law 2115 (.i2l) 1 2116 := ⟨d_i2l (bL (p := 2115) (v := 133) (by decide) (by decide +kernel)), rfl⟩
theorem eL_law_2116 : dc mL_law 2116 (.lcmp) 1 2117 := ⟨d_lcmp (bL (p := 2116) (v := 148) (by decide) (by decide +kernel)), rfl⟩
theorem eL_law_2117 : dc mL_law 2117 (.ifCond .eq 5) 3 2120 := ⟨d_ifCond_eq (bL (p := 2117) (v := 153) (by decide) (by decide +kernel)) (bL (p := 2118) (v := 0) (by decide) (by decide +kernel)) (bL (p := 2119) (v := 5) (by decide) (by decide +kernel)) (by decide +kernel), rfl⟩
theorem eL_law_2120 : dc mL_law 2120 (.iconst 0) 1 2121 := ⟨d_iconst_0 (bL (p := 2120) (v := 3) (by decide) (by decide +kernel)), rfl⟩
theorem eL_law_2121 : dc mL_law 2121 (.ireturn) 1 2122 := ⟨d_ireturn (bL (p := 2121) (v := 172) (by decide) (by decide +kernel)), rfl⟩
theorem eL_law_2122 : dc mL_law 2122 (.goto 1230) 3 2125 := ⟨d_goto (bL (p := 2122) (v := 167) (by decide) (by decide +kernel)) (bL (p := 2123) (v := 4) (by decide) (by decide +kernel)) (bL (p := 2124) (v := 206) (by decide) (by decide +kernel)) (by decide +kernel), rfl⟩
theorem eL_law_2125 : dc mL_law 2125 (.aload_n 1) 1 2126 := ⟨d_aload_1 (bL (p := 2125) (v := 43) (by decide) (by decide +kernel)), rfl⟩
theorem eL_law_2126 : dc mL_law 2126 (.aload_n 0) 1 2127 := ⟨d_aload_0 (bL (p := 2126) (v := 42) (by decide) (by decide +kernel)), rfl⟩
theorem eL_law_2127 : dc mL_law 2127 (.iload 4) 2 2129 := ⟨d_iload (bL (p := 2127) (v := 21) (by decide) (by decide +kernel)) (bL (p := 2128) (v := 4) (by decide) (by decide +kernel)), rfl⟩
theorem eL_law_2129 : dc mL_law 2129 (.iconst 1) 1 2130 := ⟨d_iconst_1 (bL (p := 2129) (v := 4) (by decide) (by decide +kernel)), rfl⟩
theorem eL_law_2130 : dc mL_law 2130 (.iadd) 1 2131 := ⟨d_iadd (bL (p := 2130) (v := 96) (by decide) (by decide +kernel)), rfl⟩
theorem eL_law_2131 : dc mL_law 2131 (.iaload) 1 2132 := ⟨d_iaload (bL (p := 2131) (v := 46) (by decide) (by decide +kernel)), rfl⟩
theorem eL_law_2132 : dc mL_law 2132 (.aload_n 0) 1 2133 := ⟨d_aload_0 (bL (p := 2132) (v := 42) (by decide) (by decide +kernel)), rfl⟩
theorem eL_law_2133 : dc mL_law 2133 (.iload 4) 2 2135 := ⟨d_iload (bL (p := 2133) (v := 21) (by decide) (by decide +kernel)) (bL (p := 2134) (v := 4) (by decide) (by decide +kernel)), rfl⟩
theorem eL_law_2135 : dc mL_law 2135 (.iconst 2) 1 2136 := ⟨d_iconst_2 (bL (p := 2135) (v := 5) (by decide) (by decide +kernel)), rfl⟩
theorem eL_law_2136 : dc mL_law 2136 (.iadd) 1 2137 := ⟨d_iadd (bL (p := 2136) (v := 96) (by decide) (by decide +kernel)), rfl⟩
theorem eL_law_2137 : dc mL_law 2137 (.iaload) 1 2138 := ⟨d_iaload (bL (p := 2137) (v := 46) (by decide) (by decide +kernel)), rfl⟩
theorem eL_law_2138 : dc mL_law 2138 (.aload_n 0) 1 2139 := ⟨d_aload_0 (bL (p := 2138) (v := 42) (by decide) (by decide +kernel)), rfl⟩
theorem eL_law_2139 : dc mL_law 2139 (.iload 4) 2 2141 := ⟨d_iload (bL (p := 2139) (v := 21) (by decide) (by decide +kernel)) (bL (p := 2140) (v := 4) (by decide) (by decide +kernel)), rfl⟩
theorem eL_law_2141 : dc mL_law 2141 (.iconst 3) 1 2142 := ⟨d_iconst_3 (bL (p := 2141) (v := 6) (by decide) (by decide +kernel)), rfl⟩
theorem eL_law_2142 : dc mL_law 2142 (.iadd) 1 2143 := ⟨d_iadd (bL (p := 2142) (v := 96) (by decide) (by decide +kernel)), rfl⟩
theorem eL_law_2143 : dc mL_law 2143 (.iaload) 1 2144 := ⟨d_iaload (bL (p := 2143) (v := 46) (by decide) (by decide +kernel)), rfl⟩
theorem eL_law_2144 : dc mL_law 2144 (.aload_n 0) 1 2145 := ⟨d_aload_0 (bL (p := 2144) (v := 42) (by decide) (by decide +kernel)), rfl⟩
theorem eL_law_2145 : dc mL_law 2145 (.iload 4) 2 2147 := ⟨d_iload (bL (p := 2145) (v := 21) (by decide) (by decide +kernel)) (bL (p := 2146) (v := 4) (by decide) (by decide +kernel)), rfl⟩
theorem eL_law_2147 : dc mL_law 2147 (.iconst 4) 1 2148 := ⟨d_iconst_4 (bL (p := 2147) (v := 7) (by decide) (by decide +kernel)), rfl⟩
theorem eL_law_2148 : dc mL_law 2148 (.iadd) 1 2149 := ⟨d_iadd (bL (p := 2148) (v := 96) (by decide) (by decide +kernel)), rfl⟩
theorem eL_law_2149 : dc mL_law 2149 (.iaload) 1 2150 := ⟨d_iaload (bL (p := 2149) (v := 46) (by decide) (by decide +kernel)), rfl⟩
theorem eL_law_2150 : dc mL_law 2150 (.aload_n 0) 1 2151 := ⟨d_aload_0 (bL (p := 2150) (v := 42) (by decide) (by decide +kernel)), rfl⟩
theorem eL_law_2151 : dc mL_law 2151 (.iload 4) 2 2153 := ⟨d_iload (bL (p := 2151) (v := 21) (by decide) (by decide +kernel)) (bL (p := 2152) (v := 4) (by decide) (by decide +kernel)), rfl⟩
theorem eL_law_2153 : dc mL_law 2153 (.iconst 5) 1 2154 := ⟨d_iconst_5 (bL (p := 2153) (v := 8) (by decide) (by decide +kernel)), rfl⟩
theorem eL_law_2154 : dc mL_law 2154 (.iadd) 1 2155 := ⟨d_iadd (bL (p := 2154) (v := 96) (by decide) (by decide +kernel)), rfl⟩
theorem eL_law_2155 : dc mL_law 2155 (.iaload) 1 2156 := ⟨d_iaload (bL (p := 2155) (v := 46) (by decide) (by decide +kernel)), rfl⟩
theorem eL_law_2156 : dc mL_law 2156 (.ifCond .eq 7) 3 2159 := ⟨d_ifCond_eq (bL (p := 2156) (v := 153) (by decide) (by decide +kernel)) (bL (p := 2157) (v := 0) (by decide) (by decide +kernel)) (bL (p := 2158) (v := 7) (by decide) (by decide +kernel)) (by decide +kernel), rfl⟩
theorem eL_law_2159 : dc mL_law 2159 (.iconst 1) 1 2160 := ⟨d_iconst_1 (bL (p := 2159) (v := 4) (by decide) (by decide +kernel)), rfl⟩
theorem eL_law_2160 : dc mL_law 2160 (.goto 4) 3 2163 := ⟨d_goto (bL (p := 2160) (v := 167) (by decide) (by decide +kernel)) (bL (p := 2161) (v := 0) (by decide) (by decide +kernel)) (bL (p := 2162) (v := 4) (by decide) (by decide +kernel)) (by decide +kernel), rfl⟩
theorem eL_law_2163 : dc mL_law 2163 (.iconst 0) 1 2164 := ⟨d_iconst_0 (bL (p := 2163) (v := 3) (by decide) (by decide +kernel)), rfl⟩
theorem eL_law_2164 : dc mL_law 2164 (.aload_n 3) 1 2165 := ⟨d_aload_3 (bL (p := 2164) (v := 45) (by decide) (by decide +kernel)), rfl⟩
theorem eL_law_2165 : dc mL_law 2165 (.invokestatic 220) 3 2168 := ⟨d_invokestatic (bL (p := 2165) (v := 184) (by decide) (by decide +kernel)) (bL (p := 2166) (v := 0) (by decide) (by decide +kernel)) (bL (p := 2167) (v := 220) (by decide) (by decide +kernel)) (by decide), rfl⟩
theorem eL_law_2168 : dc mL_law 2168 (.istore 5) 2 2170 := ⟨d_istore (bL (p := 2168) (v := 54) (by decide) (by decide +kernel)) (bL (p := 2169) (v := 5) (by decide) (by decide +kernel)), rfl⟩
theorem eL_law_2170 : dc mL_law 2170 (.aload_n 2) 1 2171 := ⟨d_aload_2 (bL (p := 2170) (v := 44) (by decide) (by decide +kernel)), rfl⟩
theorem eL_law_2171 : dc mL_law 2171 (.aload_n 0) 1 2172 := ⟨d_aload_0 (bL (p := 2171) (v := 42) (by decide) (by decide +kernel)), rfl⟩
theorem eL_law_2172 : dc mL_law 2172 (.iload 4) 2 2174 := ⟨d_iload (bL (p := 2172) (v := 21) (by decide) (by decide +kernel)) (bL (p := 2173) (v := 4) (by decide) (by decide +kernel)), rfl⟩
theorem eL_law_2174 : dc mL_law 2174 (.iconst 1) 1 2175 := ⟨d_iconst_1 (bL (p := 2174) (v := 4) (by decide) (by decide +kernel)), rfl⟩
theorem eL_law_2175 : dc mL_law 2175 (.iadd) 1 2176 := ⟨d_iadd (bL (p := 2175) (v := 96) (by decide) (by decide +kernel)), rfl⟩
theorem eL_law_2176 : dc mL_law 2176 (.iaload) 1 2177 := ⟨d_iaload (bL (p := 2176) (v := 46) (by decide) (by decide +kernel)), rfl⟩
theorem eL_law_2177 : dc mL_law 2177 (.aload_n 0) 1 2178 := ⟨d_aload_0 (bL (p := 2177) (v := 42) (by decide) (by decide +kernel)), rfl⟩
theorem eL_law_2178 : dc mL_law 2178 (.iload 4) 2 2180 := ⟨d_iload (bL (p := 2178) (v := 21) (by decide) (by decide +kernel)) (bL (p := 2179) (v := 4) (by decide) (by decide +kernel)), rfl⟩
theorem eL_law_2180 : dc mL_law 2180 (.iconst 2) 1 2181 := ⟨d_iconst_2 (bL (p := 2180) (v := 5) (by decide) (by decide +kernel)), rfl⟩
theorem eL_law_2181 : dc mL_law 2181 (.iadd) 1 2182 := ⟨d_iadd (bL (p := 2181) (v := 96) (by decide) (by decide +kernel)), rfl⟩
theorem eL_law_2182 : dc mL_law 2182 (.iaload) 1 2183 := ⟨d_iaload (bL (p := 2182) (v := 46) (by decide) (by decide +kernel)), rfl⟩
theorem eL_law_2183 : dc mL_law 2183 (.aload_n 0) 1 2184 := ⟨d_aload_0 (bL (p := 2183) (v := 42) (by decide) (by decide +kernel)), rfl⟩
theorem eL_law_2184 : dc mL_law 2184 (.iload 4) 2 2186 := ⟨d_iload (bL (p := 2184) (v := 21) (by decide) (by decide +kernel)) (bL (p := 2185) (v := 4) (by decide) (by decide +kernel)), rfl⟩
theorem eL_law_2186 : dc mL_law 2186 (.iconst 3) 1 2187 := ⟨d_iconst_3 (bL (p := 2186) (v := 6) (by decide) (by decide +kernel)), rfl⟩
theorem eL_law_2187 : dc mL_law 2187 (.iadd) 1 2188 := ⟨d_iadd (bL (p := 2187) (v := 96) (by decide) (by decide +kernel)), rfl⟩
theorem eL_law_2188 : dc mL_law 2188 (.iaload) 1 2189 := ⟨d_iaload (bL (p := 2188) (v := 46) (by decide) (by decide +kernel)), rfl⟩
theorem eL_law_2189 : dc mL_law 2189 (.aload_n 0) 1 2190 := ⟨d_aload_0 (bL (p := 2189) (v := 42) (by decide) (by decide +kernel)), rfl⟩
theorem eL_law_2190 : dc mL_law 2190 (.iload 4) 2 2192 := ⟨d_iload (bL (p := 2190) (v := 21) (by decide) (by decide +kernel)) (bL (p := 2191) (v := 4) (by decide) (by decide +kernel)), rfl⟩
theorem eL_law_2192 : dc mL_law 2192 (.iconst 4) 1 2193 := ⟨d_iconst_4 (bL (p := 2192) (v := 7) (by decide) (by decide +kernel)), rfl⟩
theorem eL_law_2193 : dc mL_law 2193 (.iadd) 1 2194 := ⟨d_iadd (bL (p := 2193) (v := 96) (by decide) (by decide +kernel)), rfl⟩
theorem eL_law_2194 : dc mL_law 2194 (.iaload) 1 2195 := ⟨d_iaload (bL (p := 2194) (v := 46) (by decide) (by decide +kernel)), rfl⟩
theorem eL_law_2195 : dc mL_law 2195 (.aload_n 0) 1 2196 := ⟨d_aload_0 (bL (p := 2195) (v := 42) (by decide) (by decide +kernel)), rfl⟩
theorem eL_law_2196 : dc mL_law 2196 (.iload 4) 2 2198 := ⟨d_iload (bL (p := 2196) (v := 21) (by decide) (by decide +kernel)) (bL (p := 2197) (v := 4) (by decide) (by decide +kernel)), rfl⟩
theorem eL_law_2198 : dc mL_law 2198 (.iconst 5) 1 2199 := ⟨d_iconst_5 (bL (p := 2198) (v := 8) (by decide) (by decide +kernel)), rfl⟩
theorem eL_law_2199 : dc mL_law 2199 (.iadd) 1 2200 := ⟨d_iadd (bL (p := 2199) (v := 96) (by decide) (by decide +kernel)), rfl⟩
theorem eL_law_2200 : dc mL_law 2200 (.iaload) 1 2201 := ⟨d_iaload (bL (p := 2200) (v := 46) (by decide) (by decide +kernel)), rfl⟩
theorem eL_law_2201 : dc mL_law 2201 (.ifCond .eq 7) 3 2204 := ⟨d_ifCond_eq (bL (p := 2201) (v := 153) (by decide) (by decide +kernel)) (bL (p := 2202) (v := 0) (by decide) (by decide +kernel)) (bL (p := 2203) (v := 7) (by decide) (by decide +kernel)) (by decide +kernel), rfl⟩
theorem eL_law_2204 : dc mL_law 2204 (.iconst 1) 1 2205 := ⟨d_iconst_1 (bL (p := 2204) (v := 4) (by decide) (by decide +kernel)), rfl⟩
theorem eL_law_2205 : dc mL_law 2205 (.goto 4) 3 2208 := ⟨d_goto (bL (p := 2205) (v := 167) (by decide) (by decide +kernel)) (bL (p := 2206) (v := 0) (by decide) (by decide +kernel)) (bL (p := 2207) (v := 4) (by decide) (by decide +kernel)) (by decide +kernel), rfl⟩
theorem eL_law_2208 : dc mL_law 2208 (.iconst 0) 1 2209 := ⟨d_iconst_0 (bL (p := 2208) (v := 3) (by decide) (by decide +kernel)), rfl⟩
theorem eL_law_2209 : dc mL_law 2209 (.invokevirtual 222) 3 2212 := ⟨d_invokevirtual (bL (p := 2209) (v := 182) (by decide) (by decide +kernel)) (bL (p := 2210) (v := 0) (by decide) (by decide +kernel)) (bL (p := 2211) (v := 222) (by decide) (by decide +kernel)) (by decide), rfl⟩
theorem eL_law_2212 : dc mL_law 2212 (.istore 6) 2 2214 := ⟨d_istore (bL (p := 2212) (v := 54) (by decide) (by decide +kernel)) (bL (p := 2213) (v := 6) (by decide) (by decide +kernel)), rfl⟩
theorem eL_law_2214 : dc mL_law 2214 (.aload_n 2) 1 2215 := ⟨d_aload_2 (bL (p := 2214) (v := 44) (by decide) (by decide +kernel)), rfl⟩
theorem eL_law_2215 : dc mL_law 2215 (.invokevirtual 141) 3 2218 := ⟨d_invokevirtual (bL (p := 2215) (v := 182) (by decide) (by decide +kernel)) (bL (p := 2216) (v := 0) (by decide) (by decide +kernel)) (bL (p := 2217) (v := 141) (by decide) (by decide +kernel)) (by decide), rfl⟩
theorem eL_law_2218 : dc mL_law 2218 (.iload 5) 2 2220 := ⟨d_iload (bL (p := 2218) (v := 21) (by decide) (by decide +kernel)) (bL (p := 2219) (v := 5) (by decide) (by decide +kernel)), rfl⟩
theorem eL_law_2220 : dc mL_law 2220 (.if_icmp .eq 5) 3 2223 := ⟨d_if_icmp_eq (bL (p := 2220) (v := 159) (by decide) (by decide +kernel)) (bL (p := 2221) (v := 0) (by decide) (by decide +kernel)) (bL (p := 2222) (v := 5) (by decide) (by decide +kernel)) (by decide +kernel), rfl⟩
theorem eL_law_2223 : dc mL_law 2223 (.iconst 0) 1 2224 := ⟨d_iconst_0 (bL (p := 2223) (v := 3) (by decide) (by decide +kernel)), rfl⟩
theorem eL_law_2224 : dc mL_law 2224 (.ireturn) 1 2225 := ⟨d_ireturn (bL (p := 2224) (v := 172) (by decide) (by decide +kernel)), rfl⟩
theorem eL_law_2225 : dc mL_law 2225 (.iload 5) 2 2227 := ⟨d_iload (bL (p := 2225) (v := 21) (by decide) (by decide +kernel)) (bL (p := 2226) (v := 5) (by decide) (by decide +kernel)), rfl⟩
theorem eL_law_2227 : dc mL_law 2227 (.ifCond .ne 15) 3 2230 := ⟨d_ifCond_ne (bL (p := 2227) (v := 154) (by decide) (by decide +kernel)) (bL (p := 2228) (v := 0) (by decide) (by decide +kernel)) (bL (p := 2229) (v := 15) (by decide) (by decide +kernel)) (by decide +kernel), rfl⟩
theorem eL_law_2230 : dc mL_law 2230 (.aload_n 3) 1 2231 := ⟨d_aload_3 (bL (p := 2230) (v := 45) (by decide) (by decide +kernel)), rfl⟩
theorem eL_law_2231 : dc mL_law 2231 (.iconst 0) 1 2232 := ⟨d_iconst_0 (bL (p := 2231) (v := 3) (by decide) (by decide +kernel)), rfl⟩
theorem eL_law_2232 : dc mL_law 2232 (.laload) 1 2233 := ⟨d_laload (bL (p := 2232) (v := 47) (by decide) (by decide +kernel)), rfl⟩
theorem eL_law_2233 : dc mL_law 2233 (.iload 6) 2 2235 := ⟨d_iload (bL (p := 2233) (v := 21) (by decide) (by decide +kernel)) (bL (p := 2234) (v := 6) (by decide) (by decide +kernel)), rfl⟩
theorem eL_law_2235 : dc mL_law 2235 (.i2l) 1 2236 := ⟨d_i2l (bL (p := 2235) (v := 133) (by decide) (by decide +kernel)), rfl⟩
theorem eL_law_2236 : dc mL_law 2236 (.lcmp) 1 2237 := ⟨d_lcmp (bL (p := 2236) (v := 148) (by decide) (by decide +kernel)), rfl⟩
theorem eL_law_2237 : dc mL_law 2237 (.ifCond .eq 5) 3 2240 := ⟨d_ifCond_eq (bL (p := 2237) (v := 153) (by decide) (by decide +kernel)) (bL (p := 2238) (v := 0) (by decide) (by decide +kernel)) (bL (p := 2239) (v := 5) (by decide) (by decide +kernel)) (by decide +kernel), rfl⟩
theorem eL_law_2240 : dc mL_law 2240 (.iconst 0) 1 2241 := ⟨d_iconst_0 (bL (p := 2240) (v := 3) (by decide) (by decide +kernel)), rfl⟩
theorem eL_law_2241 : dc mL_law 2241 (.ireturn) 1 2242 := ⟨d_ireturn (bL (p := 2241) (v := 172) (by decide) (by decide +kernel)), rfl⟩
theorem eL_law_2242 : dc mL_law 2242 (.goto 1110) 3 2245 := ⟨d_goto (bL (p := 2242) (v := 167) (by decide) (by decide +kernel)) (bL (p := 2243) (v := 4) (by decide) (by decide +kernel)) (bL (p := 2244) (v := 86) (by decide) (by decide +kernel)) (by decide +kernel), rfl⟩
theorem eL_law_2245 : dc mL_law 2245 (.aload_n 1) 1 2246 := ⟨d_aload_1 (bL (p := 2245) (v := 43) (by decide) (by decide +kernel)), rfl⟩
theorem eL_law_2246 : dc mL_law 2246 (.aload_n 0) 1 2247 := ⟨d_aload_0 (bL (p := 2246) (v := 42) (by decide) (by decide +kernel)), rfl⟩
theorem eL_law_2247 : dc mL_law 2247 (.iload 4) 2 2249 := ⟨d_iload (bL (p := 2247) (v := 21) (by decide) (by decide +kernel)) (bL (p := 2248) (v := 4) (by decide) (by decide +kernel)), rfl⟩
theorem eL_law_2249 : dc mL_law 2249 (.iconst 1) 1 2250 := ⟨d_iconst_1 (bL (p := 2249) (v := 4) (by decide) (by decide +kernel)), rfl⟩
theorem eL_law_2250 : dc mL_law 2250 (.iadd) 1 2251 := ⟨d_iadd (bL (p := 2250) (v := 96) (by decide) (by decide +kernel)), rfl⟩
theorem eL_law_2251 : dc mL_law 2251 (.iaload) 1 2252 := ⟨d_iaload (bL (p := 2251) (v := 46) (by decide) (by decide +kernel)), rfl⟩
theorem eL_law_2252 : dc mL_law 2252 (.aload_n 0) 1 2253 := ⟨d_aload_0 (bL (p := 2252) (v := 42) (by decide) (by decide +kernel)), rfl⟩
theorem eL_law_2253 : dc mL_law 2253 (.iload 4) 2 2255 := ⟨d_iload (bL (p := 2253) (v := 21) (by decide) (by decide +kernel)) (bL (p := 2254) (v := 4) (by decide) (by decide +kernel)), rfl⟩
theorem eL_law_2255 : dc mL_law 2255 (.iconst 2) 1 2256 := ⟨d_iconst_2 (bL (p := 2255) (v := 5) (by decide) (by decide +kernel)), rfl⟩
theorem eL_law_2256 : dc mL_law 2256 (.iadd) 1 2257 := ⟨d_iadd (bL (p := 2256) (v := 96) (by decide) (by decide +kernel)), rfl⟩
theorem eL_law_2257 : dc mL_law 2257 (.iaload) 1 2258 := ⟨d_iaload (bL (p := 2257) (v := 46) (by decide) (by decide +kernel)), rfl⟩
theorem eL_law_2258 : dc mL_law 2258 (.aload_n 0) 1 2259 := ⟨d_aload_0 (bL (p := 2258) (v := 42) (by decide) (by decide +kernel)), rfl⟩
theorem eL_law_2259 : dc mL_law 2259 (.iload 4) 2 2261 := ⟨d_iload (bL (p := 2259) (v := 21) (by decide) (by decide +kernel)) (bL (p := 2260) (v := 4) (by decide) (by decide +kernel)), rfl⟩
theorem eL_law_2261 : dc mL_law 2261 (.iconst 3) 1 2262 := ⟨d_iconst_3 (bL (p := 2261) (v := 6) (by decide) (by decide +kernel)), rfl⟩
theorem eL_law_2262 : dc mL_law 2262 (.iadd) 1 2263 := ⟨d_iadd (bL (p := 2262) (v := 96) (by decide) (by decide +kernel)), rfl⟩
theorem eL_law_2263 : dc mL_law 2263 (.iaload) 1 2264 := ⟨d_iaload (bL (p := 2263) (v := 46) (by decide) (by decide +kernel)), rfl⟩
theorem eL_law_2264 : dc mL_law 2264 (.aload_n 0) 1 2265 := ⟨d_aload_0 (bL (p := 2264) (v := 42) (by decide) (by decide +kernel)), rfl⟩
theorem eL_law_2265 : dc mL_law 2265 (.iload 4) 2 2267 := ⟨d_iload (bL (p := 2265) (v := 21) (by decide) (by decide +kernel)) (bL (p := 2266) (v := 4) (by decide) (by decide +kernel)), rfl⟩
theorem eL_law_2267 : dc mL_law 2267 (.iconst 4) 1 2268 := ⟨d_iconst_4 (bL (p := 2267) (v := 7) (by decide) (by decide +kernel)), rfl⟩
theorem eL_law_2268 : dc mL_law 2268 (.iadd) 1 2269 := ⟨d_iadd (bL (p := 2268) (v := 96) (by decide) (by decide +kernel)), rfl⟩
theorem eL_law_2269 : dc mL_law 2269 (.iaload) 1 2270 := ⟨d_iaload (bL (p := 2269) (v := 46) (by decide) (by decide +kernel)), rfl⟩
theorem eL_law_2270 : dc mL_law 2270 (.aload_n 3) 1 2271 := ⟨d_aload_3 (bL (p := 2270) (v := 45) (by decide) (by decide +kernel)), rfl⟩
theorem eL_law_2271 : dc mL_law 2271 (.invokestatic 223) 3 2274 := ⟨d_invokestatic (bL (p := 2271) (v := 184) (by decide) (by decide +kernel)) (bL (p := 2272) (v := 0) (by decide) (by decide +kernel)) (bL (p := 2273) (v := 223) (by decide) (by decide +kernel)) (by decide), rfl⟩
theorem eL_law_2274 : dc mL_law 2274 (.istore 5) 2 2276 := ⟨d_istore (bL (p := 2274) (v := 54) (by decide) (by decide +kernel)) (bL (p := 2275) (v := 5) (by decide) (by decide +kernel)), rfl⟩
theorem eL_law_2276 : dc mL_law 2276 (.aload_n 2) 1 2277 := ⟨d_aload_2 (bL (p := 2276) (v := 44) (by decide) (by decide +kernel)), rfl⟩
theorem eL_law_2277 : dc mL_law 2277 (.aload_n 0) 1 2278 := ⟨d_aload_0 (bL (p := 2277) (v := 42) (by decide) (by decide +kernel)), rfl⟩
theorem eL_law_2278 : dc mL_law 2278 (.iload 4) 2 2280 := ⟨d_iload (bL (p := 2278) (v := 21) (by decide) (by decide +kernel)) (bL (p := 2279) (v := 4) (by decide) (by decide +kernel)), rfl⟩
theorem eL_law_2280 : dc mL_law 2280 (.iconst 1) 1 2281 := ⟨d_iconst_1 (bL (p := 2280) (v := 4) (by decide) (by decide +kernel)), rfl⟩
theorem eL_law_2281 : dc mL_law 2281 (.iadd) 1 2282 := ⟨d_iadd (bL (p := 2281) (v := 96) (by decide) (by decide +kernel)), rfl⟩
theorem eL_law_2282 : dc mL_law 2282 (.iaload) 1 2283 := ⟨d_iaload (bL (p := 2282) (v := 46) (by decide) (by decide +kernel)), rfl⟩
theorem eL_law_2283 : dc mL_law 2283 (.aload_n 0) 1 2284 := ⟨d_aload_0 (bL (p := 2283) (v := 42) (by decide) (by decide +kernel)), rfl⟩
theorem eL_law_2284 : dc mL_law 2284 (.iload 4) 2 2286 := ⟨d_iload (bL (p := 2284) (v := 21) (by decide) (by decide +kernel)) (bL (p := 2285) (v := 4) (by decide) (by decide +kernel)), rfl⟩
theorem eL_law_2286 : dc mL_law 2286 (.iconst 2) 1 2287 := ⟨d_iconst_2 (bL (p := 2286) (v := 5) (by decide) (by decide +kernel)), rfl⟩
theorem eL_law_2287 : dc mL_law 2287 (.iadd) 1 2288 := ⟨d_iadd (bL (p := 2287) (v := 96) (by decide) (by decide +kernel)), rfl⟩
theorem eL_law_2288 : dc mL_law 2288 (.iaload) 1 2289 := ⟨d_iaload (bL (p := 2288) (v := 46) (by decide) (by decide +kernel)), rfl⟩
theorem eL_law_2289 : dc mL_law 2289 (.aload_n 0) 1 2290 := ⟨d_aload_0 (bL (p := 2289) (v := 42) (by decide) (by decide +kernel)), rfl⟩
theorem eL_law_2290 : dc mL_law 2290 (.iload 4) 2 2292 := ⟨d_iload (bL (p := 2290) (v := 21) (by decide) (by decide +kernel)) (bL (p := 2291) (v := 4) (by decide) (by decide +kernel)), rfl⟩
theorem eL_law_2292 : dc mL_law 2292 (.iconst 3) 1 2293 := ⟨d_iconst_3 (bL (p := 2292) (v := 6) (by decide) (by decide +kernel)), rfl⟩
theorem eL_law_2293 : dc mL_law 2293 (.iadd) 1 2294 := ⟨d_iadd (bL (p := 2293) (v := 96) (by decide) (by decide +kernel)), rfl⟩
theorem eL_law_2294 : dc mL_law 2294 (.iaload) 1 2295 := ⟨d_iaload (bL (p := 2294) (v := 46) (by decide) (by decide +kernel)), rfl⟩
theorem eL_law_2295 : dc mL_law 2295 (.aload_n 0) 1 2296 := ⟨d_aload_0 (bL (p := 2295) (v := 42) (by decide) (by decide +kernel)), rfl⟩
theorem eL_law_2296 : dc mL_law 2296 (.iload 4) 2 2298 := ⟨d_iload (bL (p := 2296) (v := 21) (by decide) (by decide +kernel)) (bL (p := 2297) (v := 4) (by decide) (by decide +kernel)), rfl⟩
theorem eL_law_2298 : dc mL_law 2298 (.iconst 4) 1 2299 := ⟨d_iconst_4 (bL (p := 2298) (v := 7) (by decide) (by decide +kernel)), rfl⟩
theorem eL_law_2299 : dc mL_law 2299 (.iadd) 1 2300 := ⟨d_iadd (bL (p := 2299) (v := 96) (by decide) (by decide +kernel)), rfl⟩
theorem eL_law_2300 : dc mL_law 2300 (.iaload) 1 2301 := ⟨d_iaload (bL (p := 2300) (v := 46) (by decide) (by decide +kernel)), rfl⟩
theorem eL_law_2301 : dc mL_law 2301 (.invokevirtual 225) 3 2304 := ⟨d_invokevirtual (bL (p := 2301) (v := 182) (by decide) (by decide +kernel)) (bL (p := 2302) (v := 0) (by decide) (by decide +kernel)) (bL (p := 2303) (v := 225) (by decide) (by decide +kernel)) (by decide), rfl⟩
theorem eL_law_2304 : dc mL_law 2304 (.istore 6) 2 2306 := ⟨d_istore (bL (p := 2304) (v := 54) (by decide) (by decide +kernel)) (bL (p := 2305) (v := 6) (by decide) (by decide +kernel)), rfl⟩
theorem eL_law_2306 : dc mL_law 2306 (.aload_n 2) 1 2307 := ⟨d_aload_2 (bL (p := 2306) (v := 44) (by decide) (by decide +kernel)), rfl⟩
theorem eL_law_2307 : dc mL_law 2307 (.invokevirtual 141) 3 2310 := ⟨d_invokevirtual (bL (p := 2307) (v := 182) (by decide) (by decide +kernel)) (bL (p := 2308) (v := 0) (by decide) (by decide +kernel)) (bL (p := 2309) (v := 141) (by decide) (by decide +kernel)) (by decide), rfl⟩
theorem eL_law_2310 : dc mL_law 2310 (.iload 5) 2 2312 := ⟨d_iload (bL (p := 2310) (v := 21) (by decide) (by decide +kernel)) (bL (p := 2311) (v := 5) (by decide) (by decide +kernel)), rfl⟩
theorem eL_law_2312 : dc mL_law 2312 (.if_icmp .eq 5) 3 2315 := ⟨d_if_icmp_eq (bL (p := 2312) (v := 159) (by decide) (by decide +kernel)) (bL (p := 2313) (v := 0) (by decide) (by decide +kernel)) (bL (p := 2314) (v := 5) (by decide) (by decide +kernel)) (by decide +kernel), rfl⟩
theorem eL_law_2315 : dc mL_law 2315 (.iconst 0) 1 2316 := ⟨d_iconst_0 (bL (p := 2315) (v := 3) (by decide) (by decide +kernel)), rfl⟩
theorem eL_law_2316 : dc mL_law 2316 (.ireturn) 1 2317 := ⟨d_ireturn (bL (p := 2316) (v := 172) (by decide) (by decide +kernel)), rfl⟩
theorem eL_law_2317 : dc mL_law 2317 (.iload 5) 2 2319 := ⟨d_iload (bL (p := 2317) (v := 21) (by decide) (by decide +kernel)) (bL (p := 2318) (v := 5) (by decide) (by decide +kernel)), rfl⟩
theorem eL_law_2319 : dc mL_law 2319 (.ifCond .ne 15) 3 2322 := ⟨d_ifCond_ne (bL (p := 2319) (v := 154) (by decide) (by decide +kernel)) (bL (p := 2320) (v := 0) (by decide) (by decide +kernel)) (bL (p := 2321) (v := 15) (by decide) (by decide +kernel)) (by decide +kernel), rfl⟩
theorem eL_law_2322 : dc mL_law 2322 (.aload_n 3) 1 2323 := ⟨d_aload_3 (bL (p := 2322) (v := 45) (by decide) (by decide +kernel)), rfl⟩
theorem eL_law_2323 : dc mL_law 2323 (.iconst 0) 1 2324 := ⟨d_iconst_0 (bL (p := 2323) (v := 3) (by decide) (by decide +kernel)), rfl⟩
theorem eL_law_2324 : dc mL_law 2324 (.laload) 1 2325 := ⟨d_laload (bL (p := 2324) (v := 47) (by decide) (by decide +kernel)), rfl⟩
theorem eL_law_2325 : dc mL_law 2325 (.iload 6) 2 2327 := ⟨d_iload (bL (p := 2325) (v := 21) (by decide) (by decide +kernel)) (bL (p := 2326) (v := 6) (by decide) (by decide +kernel)), rfl⟩
theorem eL_law_2327 : dc mL_law 2327 (.i2l) 1 2328 := ⟨d_i2l (bL (p := 2327) (v := 133) (by decide) (by decide +kernel)), rfl⟩
theorem eL_law_2328 : dc mL_law 2328 (.lcmp) 1 2329 := ⟨d_lcmp (bL (p := 2328) (v := 148) (by decide) (by decide +kernel)), rfl⟩
theorem eL_law_2329 : dc mL_law 2329 (.ifCond .eq 5) 3 2332 := ⟨d_ifCond_eq (bL (p := 2329) (v := 153) (by decide) (by decide +kernel)) (bL (p := 2330) (v := 0) (by decide) (by decide +kernel)) (bL (p := 2331) (v := 5) (by decide) (by decide +kernel)) (by decide +kernel), rfl⟩
theorem eL_law_2332 : dc mL_law 2332 (.iconst 0) 1 2333 := ⟨d_iconst_0 (bL (p := 2332) (v := 3) (by decide) (by decide +kernel)), rfl⟩
theorem eL_law_2333 : dc mL_law 2333 (.ireturn) 1 2334 := ⟨d_ireturn (bL (p := 2333) (v := 172) (by decide) (by decide +kernel)), rfl⟩
theorem eL_law_2334 : dc mL_law 2334 (.goto 1018) 3 2337 := ⟨d_goto (bL (p := 2334) (v := 167) (by decide) (by decide +kernel)) (bL (p := 2335) (v := 3) (by decide) (by decide +kernel)) (bL (p := 2336) (v := 250) (by decide) (by decide +kernel)) (by decide +kernel), rfl⟩
theorem eL_law_2337 : dc mL_law 2337 (.aload_n 1) 1 2338 := ⟨d_aload_1 (bL (p := 2337) (v := 43) (by decide) (by decide +kernel)), rfl⟩
theorem eL_law_2338 : dc mL_law 2338 (.aload_n 0) 1 2339 := ⟨d_aload_0 (bL (p := 2338) (v := 42) (by decide) (by decide +kernel)), rfl⟩
theorem eL_law_2339 : dc mL_law 2339 (.iload 4) 2 2341 := ⟨d_iload (bL (p := 2339) (v := 21) (by decide) (by decide +kernel)) (bL (p := 2340) (v := 4) (by decide) (by decide +kernel)), rfl⟩
theorem eL_law_2341 : dc mL_law 2341 (.iconst 1) 1 2342 := ⟨d_iconst_1 (bL (p := 2341) (v := 4) (by decide) (by decide +kernel)), rfl⟩
theorem eL_law_2342 : dc mL_law 2342 (.iadd) 1 2343 := ⟨d_iadd (bL (p := 2342) (v := 96) (by decide) (by decide +kernel)), rfl⟩
theorem eL_law_2343 : dc mL_law 2343 (.iaload) 1 2344 := ⟨d_iaload (bL (p := 2343) (v := 46) (by decide) (by decide +kernel)), rfl⟩
theorem eL_law_2344 : dc mL_law 2344 (.aload_n 0) 1 2345 := ⟨d_aload_0 (bL (p := 2344) (v := 42) (by decide) (by decide +kernel)), rfl⟩
theorem eL_law_2345 : dc mL_law 2345 (.iload 4) 2 2347 := ⟨d_iload (bL (p := 2345) (v := 21) (by decide) (by decide +kernel)) (bL (p := 2346) (v := 4) (by decide) (by decide +kernel)), rfl⟩
theorem eL_law_2347 : dc mL_law 2347 (.iconst 2) 1 2348 := ⟨d_iconst_2 (bL (p := 2347) (v := 5) (by decide) (by decide +kernel)), rfl⟩
theorem eL_law_2348 : dc mL_law 2348 (.iadd) 1 2349 := ⟨d_iadd (bL (p := 2348) (v := 96) (by decide) (by decide +kernel)), rfl⟩
theorem eL_law_2349 : dc mL_law 2349 (.iaload) 1 2350 := ⟨d_iaload (bL (p := 2349) (v := 46) (by decide) (by decide +kernel)), rfl⟩
theorem eL_law_2350 : dc mL_law 2350 (.aload_n 0) 1 2351 := ⟨d_aload_0 (bL (p := 2350) (v := 42) (by decide) (by decide +kernel)), rfl⟩
theorem eL_law_2351 : dc mL_law 2351 (.iload 4) 2 2353 := ⟨d_iload (bL (p := 2351) (v := 21) (by decide) (by decide +kernel)) (bL (p := 2352) (v := 4) (by decide) (by decide +kernel)), rfl⟩
theorem eL_law_2353 : dc mL_law 2353 (.iconst 3) 1 2354 := ⟨d_iconst_3 (bL (p := 2353) (v := 6) (by decide) (by decide +kernel)), rfl⟩
theorem eL_law_2354 : dc mL_law 2354 (.iadd) 1 2355 := ⟨d_iadd (bL (p := 2354) (v := 96) (by decide) (by decide +kernel)), rfl⟩
theorem eL_law_2355 : dc mL_law 2355 (.iaload) 1 2356 := ⟨d_iaload (bL (p := 2355) (v := 46) (by decide) (by decide +kernel)), rfl⟩
theorem eL_law_2356 : dc mL_law 2356 (.aload_n 0) 1 2357 := ⟨d_aload_0 (bL (p := 2356) (v := 42) (by decide) (by decide +kernel)), rfl⟩
theorem eL_law_2357 : dc mL_law 2357 (.iload 4) 2 2359 := ⟨d_iload (bL (p := 2357) (v := 21) (by decide) (by decide +kernel)) (bL (p := 2358) (v := 4) (by decide) (by decide +kernel)), rfl⟩
theorem eL_law_2359 : dc mL_law 2359 (.iconst 4) 1 2360 := ⟨d_iconst_4 (bL (p := 2359) (v := 7) (by decide) (by decide +kernel)), rfl⟩
theorem eL_law_2360 : dc mL_law 2360 (.iadd) 1 2361 := ⟨d_iadd (bL (p := 2360) (v := 96) (by decide) (by decide +kernel)), rfl⟩
theorem eL_law_2361 : dc mL_law 2361 (.iaload) 1 2362 := ⟨d_iaload (bL (p := 2361) (v := 46) (by decide) (by decide +kernel)), rfl⟩
theorem eL_law_2362 : dc mL_law 2362 (.aload_n 0) 1 2363 := ⟨d_aload_0 (bL (p := 2362) (v := 42) (by decide) (by decide +kernel)), rfl⟩
theorem eL_law_2363 : dc mL_law 2363 (.iload 4) 2 2365 := ⟨d_iload (bL (p := 2363) (v := 21) (by decide) (by decide +kernel)) (bL (p := 2364) (v := 4) (by decide) (by decide +kernel)), rfl⟩
theorem eL_law_2365 : dc mL_law 2365 (.iconst 5) 1 2366 := ⟨d_iconst_5 (bL (p := 2365) (v := 8) (by decide) (by decide +kernel)), rfl⟩
theorem eL_law_2366 : dc mL_law 2366 (.iadd) 1 2367 := ⟨d_iadd (bL (p := 2366) (v := 96) (by decide) (by decide +kernel)), rfl⟩
theorem eL_law_2367 : dc mL_law 2367 (.iaload) 1 2368 := ⟨d_iaload (bL (p := 2367) (v := 46) (by decide) (by decide +kernel)), rfl⟩
theorem eL_law_2368 : dc mL_law 2368 (.aload_n 0) 1 2369 := ⟨d_aload_0 (bL (p := 2368) (v := 42) (by decide) (by decide +kernel)), rfl⟩
theorem eL_law_2369 : dc mL_law 2369 (.iload 4) 2 2371 := ⟨d_iload (bL (p := 2369) (v := 21) (by decide) (by decide +kernel)) (bL (p := 2370) (v := 4) (by decide) (by decide +kernel)), rfl⟩
theorem eL_law_2371 : dc mL_law 2371 (.bipush 6) 2 2373 := ⟨d_bipush (bL (p := 2371) (v := 16) (by decide) (by decide +kernel)) (bL (p := 2372) (v := 6) (by decide) (by decide +kernel)) (by decide +kernel), rfl⟩
theorem eL_law_2373 : dc mL_law 2373 (.iadd) 1 2374 := ⟨d_iadd (bL (p := 2373) (v := 96) (by decide) (by decide +kernel)), rfl⟩
theorem eL_law_2374 : dc mL_law 2374 (.iaload) 1 2375 := ⟨d_iaload (bL (p := 2374) (v := 46) (by decide) (by decide +kernel)), rfl⟩
theorem eL_law_2375 : dc mL_law 2375 (.aload_n 0) 1 2376 := ⟨d_aload_0 (bL (p := 2375) (v := 42) (by decide) (by decide +kernel)), rfl⟩
theorem eL_law_2376 : dc mL_law 2376 (.iload 4) 2 2378 := ⟨d_iload (bL (p := 2376) (v := 21) (by decide) (by decide +kernel)) (bL (p := 2377) (v := 4) (by decide) (by decide +kernel)), rfl⟩
theorem eL_law_2378 : dc mL_law 2378 (.bipush 7) 2 2380 := ⟨d_bipush (bL (p := 2378) (v := 16) (by decide) (by decide +kernel)) (bL (p := 2379) (v := 7) (by decide) (by decide +kernel)) (by decide +kernel), rfl⟩
theorem eL_law_2380 : dc mL_law 2380 (.iadd) 1 2381 := ⟨d_iadd (bL (p := 2380) (v := 96) (by decide) (by decide +kernel)), rfl⟩
theorem eL_law_2381 : dc mL_law 2381 (.iaload) 1 2382 := ⟨d_iaload (bL (p := 2381) (v := 46) (by decide) (by decide +kernel)), rfl⟩
theorem eL_law_2382 : dc mL_law 2382 (.aload_n 3) 1 2383 := ⟨d_aload_3 (bL (p := 2382) (v := 45) (by decide) (by decide +kernel)), rfl⟩
theorem eL_law_2383 : dc mL_law 2383 (.invokestatic 226) 3 2386 := ⟨d_invokestatic (bL (p := 2383) (v := 184) (by decide) (by decide +kernel)) (bL (p := 2384) (v := 0) (by decide) (by decide +kernel)) (bL (p := 2385) (v := 226) (by decide) (by decide +kernel)) (by decide), rfl⟩
theorem eL_law_2386 : dc mL_law 2386 (.istore 5) 2 2388 := ⟨d_istore (bL (p := 2386) (v := 54) (by decide) (by decide +kernel)) (bL (p := 2387) (v := 5) (by decide) (by decide +kernel)), rfl⟩
theorem eL_law_2388 : dc mL_law 2388 (.aload_n 2) 1 2389 := ⟨d_aload_2 (bL (p := 2388) (v := 44) (by decide) (by decide +kernel)), rfl⟩
theorem eL_law_2389 : dc mL_law 2389 (.aload_n 0) 1 2390 := ⟨d_aload_0 (bL (p := 2389) (v := 42) (by decide) (by decide +kernel)), rfl⟩
theorem eL_law_2390 : dc mL_law 2390 (.iload 4) 2 2392 := ⟨d_iload (bL (p := 2390) (v := 21) (by decide) (by decide +kernel)) (bL (p := 2391) (v := 4) (by decide) (by decide +kernel)), rfl⟩
theorem eL_law_2392 : dc mL_law 2392 (.iconst 1) 1 2393 := ⟨d_iconst_1 (bL (p := 2392) (v := 4) (by decide) (by decide +kernel)), rfl⟩
theorem eL_law_2393 : dc mL_law 2393 (.iadd) 1 2394 := ⟨d_iadd (bL (p := 2393) (v := 96) (by decide) (by decide +kernel)), rfl⟩
theorem eL_law_2394 : dc mL_law 2394 (.iaload) 1 2395 := ⟨d_iaload (bL (p := 2394) (v := 46) (by decide) (by decide +kernel)), rfl⟩
theorem eL_law_2395 : dc mL_law 2395 (.aload_n 0) 1 2396 := ⟨d_aload_0 (bL (p := 2395) (v := 42) (by decide) (by decide +kernel)), rfl⟩
theorem eL_law_2396 : dc mL_law 2396 (.iload 4) 2 2398 := ⟨d_iload (bL (p := 2396) (v := 21) (by decide) (by decide +kernel)) (bL (p := 2397) (v := 4) (by decide) (by decide +kernel)), rfl⟩
theorem eL_law_2398 : dc mL_law 2398 (.iconst 2) 1 2399 := ⟨d_iconst_2 (bL (p := 2398) (v := 5) (by decide) (by decide +kernel)), rfl⟩
theorem eL_law_2399 : dc mL_law 2399 (.iadd) 1 2400 := ⟨d_iadd (bL (p := 2399) (v := 96) (by decide) (by decide +kernel)), rfl⟩
theorem eL_law_2400 : dc mL_law 2400 (.iaload) 1 2401 := ⟨d_iaload (bL (p := 2400) (v := 46) (by decide) (by decide +kernel)), rfl⟩
theorem eL_law_2401 : dc mL_law 2401 (.aload_n 0) 1 2402 := ⟨d_aload_0 (bL (p := 2401) (v := 42) (by decide) (by decide +kernel)), rfl⟩
theorem eL_law_2402 : dc mL_law 2402 (.iload 4) 2 2404 := ⟨d_iload (bL (p := 2402) (v := 21) (by decide) (by decide +kernel)) (bL (p := 2403) (v := 4) (by decide) (by decide +kernel)), rfl⟩
theorem eL_law_2404 : dc mL_law 2404 (.iconst 3) 1 2405 := ⟨d_iconst_3 (bL (p := 2404) (v := 6) (by decide) (by decide +kernel)), rfl⟩
theorem eL_law_2405 : dc mL_law 2405 (.iadd) 1 2406 := ⟨d_iadd (bL (p := 2405) (v := 96) (by decide) (by decide +kernel)), rfl⟩
theorem eL_law_2406 : dc mL_law 2406 (.iaload) 1 2407 := ⟨d_iaload (bL (p := 2406) (v := 46) (by decide) (by decide +kernel)), rfl⟩
theorem eL_law_2407 : dc mL_law 2407 (.aload_n 0) 1 2408 := ⟨d_aload_0 (bL (p := 2407) (v := 42) (by decide) (by decide +kernel)), rfl⟩
theorem eL_law_2408 : dc mL_law 2408 (.iload 4) 2 2410 := ⟨d_iload (bL (p := 2408) (v := 21) (by decide) (by decide +kernel)) (bL (p := 2409) (v := 4) (by decide) (by decide +kernel)), rfl⟩
theorem eL_law_2410 : dc mL_law 2410 (.iconst 4) 1 2411 := ⟨d_iconst_4 (bL (p := 2410) (v := 7) (by decide) (by decide +kernel)), rfl⟩
theorem eL_law_2411 : dc mL_law 2411 (.iadd) 1 2412 := ⟨d_iadd (bL (p := 2411) (v := 96) (by decide) (by decide +kernel)), rfl⟩
theorem eL_law_2412 : dc mL_law 2412 (.iaload) 1 2413 := ⟨d_iaload (bL (p := 2412) (v := 46) (by decide) (by decide +kernel)), rfl⟩
theorem eL_law_2413 : dc mL_law 2413 (.aload_n 0) 1 2414 := ⟨d_aload_0 (bL (p := 2413) (v := 42) (by decide) (by decide +kernel)), rfl⟩
theorem eL_law_2414 : dc mL_law 2414 (.iload 4) 2 2416 := ⟨d_iload (bL (p := 2414) (v := 21) (by decide) (by decide +kernel)) (bL (p := 2415) (v := 4) (by decide) (by decide +kernel)), rfl⟩
theorem eL_law_2416 : dc mL_law 2416 (.iconst 5) 1 2417 := ⟨d_iconst_5 (bL (p := 2416) (v := 8) (by decide) (by decide +kernel)), rfl⟩
theorem eL_law_2417 : dc mL_law 2417 (.iadd) 1 2418 := ⟨d_iadd (bL (p := 2417) (v := 96) (by decide) (by decide +kernel)), rfl⟩
theorem eL_law_2418 : dc mL_law 2418 (.iaload) 1 2419 := ⟨d_iaload (bL (p := 2418) (v := 46) (by decide) (by decide +kernel)), rfl⟩
theorem eL_law_2419 : dc mL_law 2419 (.aload_n 0) 1 2420 := ⟨d_aload_0 (bL (p := 2419) (v := 42) (by decide) (by decide +kernel)), rfl⟩
theorem eL_law_2420 : dc mL_law 2420 (.iload 4) 2 2422 := ⟨d_iload (bL (p := 2420) (v := 21) (by decide) (by decide +kernel)) (bL (p := 2421) (v := 4) (by decide) (by decide +kernel)), rfl⟩
theorem eL_law_2422 : dc mL_law 2422 (.bipush 6) 2 2424 := ⟨d_bipush (bL (p := 2422) (v := 16) (by decide) (by decide +kernel)) (bL (p := 2423) (v := 6) (by decide) (by decide +kernel)) (by decide +kernel), rfl⟩
theorem eL_law_2424 : dc mL_law 2424 (.iadd) 1 2425 := ⟨d_iadd (bL (p := 2424) (v := 96) (by decide) (by decide +kernel)), rfl⟩
theorem eL_law_2425 : dc mL_law 2425 (.iaload) 1 2426 := ⟨d_iaload (bL (p := 2425) (v := 46) (by decide) (by decide +kernel)), rfl⟩
theorem eL_law_2426 : dc mL_law 2426 (.aload_n 0) 1 2427 := ⟨d_aload_0 (bL (p := 2426) (v := 42) (by decide) (by decide +kernel)), rfl⟩
theorem eL_law_2427 : dc mL_law 2427 (.iload 4) 2 2429 := ⟨d_iload (bL (p := 2427) (v := 21) (by decide) (by decide +kernel)) (bL (p := 2428) (v := 4) (by decide) (by decide +kernel)), rfl⟩
theorem eL_law_2429 : dc mL_law 2429 (.bipush 7) 2 2431 := ⟨d_bipush (bL (p := 2429) (v := 16) (by decide) (by decide +kernel)) (bL (p := 2430) (v := 7) (by decide) (by decide +kernel)) (by decide +kernel), rfl⟩
theorem eL_law_2431 : dc mL_law 2431 (.iadd) 1 2432 := ⟨d_iadd (bL (p := 2431) (v := 96) (by decide) (by decide +kernel)), rfl⟩
theorem eL_law_2432 : dc mL_law 2432 (.iaload) 1 2433 := ⟨d_iaload (bL (p := 2432) (v := 46) (by decide) (by decide +kernel)), rfl⟩
theorem eL_law_2433 : dc mL_law 2433 (.invokevirtual 229) 3 2436 := ⟨d_invokevirtual (bL (p := 2433) (v := 182) (by decide) (by decide +kernel)) (bL (p := 2434) (v := 0) (by decide) (by decide +kernel)) (bL (p := 2435) (v := 229) (by decide) (by decide +kernel)) (by decide), rfl⟩
theorem eL_law_2436 : dc mL_law 2436 (.istore 6) 2 2438 := ⟨d_istore (bL (p := 2436) (v := 54) (by decide) (by decide +kernel)) (bL (p := 2437) (v := 6) (by decide) (by decide +kernel)), rfl⟩
theorem eL_law_2438 : dc mL_law 2438 (.aload_n 2) 1 2439 := ⟨d_aload_2 (bL (p := 2438) (v := 44) (by decide) (by decide +kernel)), rfl⟩
theorem eL_law_2439 : dc mL_law 2439 (.invokevirtual 141) 3 2442 := ⟨d_invokevirtual (bL (p := 2439) (v := 182) (by decide) (by decide +kernel)) (bL (p := 2440) (v := 0) (by decide) (by decide +kernel)) (bL (p := 2441) (v := 141) (by decide) (by decide +kernel)) (by decide), rfl⟩
theorem eL_law_2442 : dc mL_law 2442 (.iload 5) 2 2444 := ⟨d_iload (bL (p := 2442) (v := 21) (by decide) (by decide +kernel)) (bL (p := 2443) (v := 5) (by decide) (by decide +kernel)), rfl⟩
theorem eL_law_2444 : dc mL_law 2444 (.if_icmp .eq 5) 3 2447 := ⟨d_if_icmp_eq (bL (p := 2444) (v := 159) (by decide) (by decide +kernel)) (bL (p := 2445) (v := 0) (by decide) (by decide +kernel)) (bL (p := 2446) (v := 5) (by decide) (by decide +kernel)) (by decide +kernel), rfl⟩
theorem eL_law_2447 : dc mL_law 2447 (.iconst 0) 1 2448 := ⟨d_iconst_0 (bL (p := 2447) (v := 3) (by decide) (by decide +kernel)), rfl⟩
theorem eL_law_2448 : dc mL_law 2448 (.ireturn) 1 2449 := ⟨d_ireturn (bL (p := 2448) (v := 172) (by decide) (by decide +kernel)), rfl⟩
theorem eL_law_2449 : dc mL_law 2449 (.iload 5) 2 2451 := ⟨d_iload (bL (p := 2449) (v := 21) (by decide) (by decide +kernel)) (bL (p := 2450) (v := 5) (by decide) (by decide +kernel)), rfl⟩
theorem eL_law_2451 : dc mL_law 2451 (.ifCond .ne 15) 3 2454 := ⟨d_ifCond_ne (bL (p := 2451) (v := 154) (by decide) (by decide +kernel)) (bL (p := 2452) (v := 0) (by decide) (by decide +kernel)) (bL (p := 2453) (v := 15) (by decide) (by decide +kernel)) (by decide +kernel), rfl⟩
theorem eL_law_2454 : dc mL_law 2454 (.aload_n 3) 1 2455 := ⟨d_aload_3 (bL (p := 2454) (v := 45) (by decide) (by decide +kernel)), rfl⟩
theorem eL_law_2455 : dc mL_law 2455 (.iconst 0) 1 2456 := ⟨d_iconst_0 (bL (p := 2455) (v := 3) (by decide) (by decide +kernel)), rfl⟩
theorem eL_law_2456 : dc mL_law 2456 (.laload) 1 2457 := ⟨d_laload (bL (p := 2456) (v := 47) (by decide) (by decide +kernel)), rfl⟩
theorem eL_law_2457 : dc mL_law 2457 (.iload 6) 2 2459 := ⟨d_iload (bL (p := 2457) (v := 21) (by decide) (by decide +kernel)) (bL (p := 2458) (v := 6) (by decide) (by decide +kernel)), rfl⟩
theorem eL_law_2459 : dc mL_law 2459 (.i2l) 1 2460 := ⟨d_i2l (bL (p := 2459) (v := 133) (by decide) (by decide +kernel)), rfl⟩
theorem eL_law_2460 : dc mL_law 2460 (.lcmp) 1 2461 := ⟨d_lcmp (bL (p := 2460) (v := 148) (by decide) (by decide +kernel)), rfl⟩
theorem eL_law_2461 : dc mL_law 2461 (.ifCond .eq 5) 3 2464 := ⟨d_ifCond_eq (bL (p := 2461) (v := 153) (by decide) (by decide +kernel)) (bL (p := 2462) (v := 0) (by decide) (by decide +kernel)) (bL (p := 2463) (v := 5) (by decide) (by decide +kernel)) (by decide +kernel), rfl⟩
theorem eL_law_2464 : dc mL_law 2464 (.iconst 0) 1 2465 := ⟨d_iconst_0 (bL (p := 2464) (v := 3) (by decide) (by decide +kernel)), rfl⟩
theorem eL_law_2465 : dc mL_law 2465 (.ireturn) 1 2466 := ⟨d_ireturn (bL (p := 2465) (v := 172) (by decide) (by decide +kernel)), rfl⟩
theorem eL_law_2466 : dc mL_law 2466 (.goto 886) 3 2469 := ⟨d_goto (bL (p := 2466) (v := 167) (by decide) (by decide +kernel)) (bL (p := 2467) (v := 3) (by decide) (by decide +kernel)) (bL (p := 2468) (v := 118) (by decide) (by decide +kernel)) (by decide +kernel), rfl⟩
theorem eL_law_2469 : dc mL_law 2469 (.aload_n 1) 1 2470 := ⟨d_aload_1 (bL (p := 2469) (v := 43) (by decide) (by decide +kernel)), rfl⟩
theorem eL_law_2470 : dc mL_law 2470 (.aload_n 0) 1 2471 := ⟨d_aload_0 (bL (p := 2470) (v := 42) (by decide) (by decide +kernel)), rfl⟩
theorem eL_law_2471 : dc mL_law 2471 (.iload 4) 2 2473 := ⟨d_iload (bL (p := 2471) (v := 21) (by decide) (by decide +kernel)) (bL (p := 2472) (v := 4) (by decide) (by decide +kernel)), rfl⟩
theorem eL_law_2473 : dc mL_law 2473 (.iconst 1) 1 2474 := ⟨d_iconst_1 (bL (p := 2473) (v := 4) (by decide) (by decide +kernel)), rfl⟩
theorem eL_law_2474 : dc mL_law 2474 (.iadd) 1 2475 := ⟨d_iadd (bL (p := 2474) (v := 96) (by decide) (by decide +kernel)), rfl⟩
theorem eL_law_2475 : dc mL_law 2475 (.iaload) 1 2476 := ⟨d_iaload (bL (p := 2475) (v := 46) (by decide) (by decide +kernel)), rfl⟩
theorem eL_law_2476 : dc mL_law 2476 (.aload_n 0) 1 2477 := ⟨d_aload_0 (bL (p := 2476) (v := 42) (by decide) (by decide +kernel)), rfl⟩
theorem eL_law_2477 : dc mL_law 2477 (.iload 4) 2 2479 := ⟨d_iload (bL (p := 2477) (v := 21) (by decide) (by decide +kernel)) (bL (p := 2478) (v := 4) (by decide) (by decide +kernel)), rfl⟩
theorem eL_law_2479 : dc mL_law 2479 (.iconst 2) 1 2480 := ⟨d_iconst_2 (bL (p := 2479) (v := 5) (by decide) (by decide +kernel)), rfl⟩
theorem eL_law_2480 : dc mL_law 2480 (.iadd) 1 2481 := ⟨d_iadd (bL (p := 2480) (v := 96) (by decide) (by decide +kernel)), rfl⟩
theorem eL_law_2481 : dc mL_law 2481 (.iaload) 1 2482 := ⟨d_iaload (bL (p := 2481) (v := 46) (by decide) (by decide +kernel)), rfl⟩
theorem eL_law_2482 : dc mL_law 2482 (.aload_n 0) 1 2483 := ⟨d_aload_0 (bL (p := 2482) (v := 42) (by decide) (by decide +kernel)), rfl⟩
theorem eL_law_2483 : dc mL_law 2483 (.iload 4) 2 2485 := ⟨d_iload (bL (p := 2483) (v := 21) (by decide) (by decide +kernel)) (bL (p := 2484) (v := 4) (by decide) (by decide +kernel)), rfl⟩
theorem eL_law_2485 : dc mL_law 2485 (.iconst 3) 1 2486 := ⟨d_iconst_3 (bL (p := 2485) (v := 6) (by decide) (by decide +kernel)), rfl⟩
theorem eL_law_2486 : dc mL_law 2486 (.iadd) 1 2487 := ⟨d_iadd (bL (p := 2486) (v := 96) (by decide) (by decide +kernel)), rfl⟩
theorem eL_law_2487 : dc mL_law 2487 (.iaload) 1 2488 := ⟨d_iaload (bL (p := 2487) (v := 46) (by decide) (by decide +kernel)), rfl⟩
theorem eL_law_2488 : dc mL_law 2488 (.aload_n 0) 1 2489 := ⟨d_aload_0 (bL (p := 2488) (v := 42) (by decide) (by decide +kernel)), rfl⟩
theorem eL_law_2489 : dc mL_law 2489 (.iload 4) 2 2491 := ⟨d_iload (bL (p := 2489) (v := 21) (by decide) (by decide +kernel)) (bL (p := 2490) (v := 4) (by decide) (by decide +kernel)), rfl⟩
theorem eL_law_2491 : dc mL_law 2491 (.iconst 4) 1 2492 := ⟨d_iconst_4 (bL (p := 2491) (v := 7) (by decide) (by decide +kernel)), rfl⟩
theorem eL_law_2492 : dc mL_law 2492 (.iadd) 1 2493 := ⟨d_iadd (bL (p := 2492) (v := 96) (by decide) (by decide +kernel)), rfl⟩
theorem eL_law_2493 : dc mL_law 2493 (.iaload) 1 2494 := ⟨d_iaload (bL (p := 2493) (v := 46) (by decide) (by decide +kernel)), rfl⟩
theorem eL_law_2494 : dc mL_law 2494 (.aload_n 0) 1 2495 := ⟨d_aload_0 (bL (p := 2494) (v := 42) (by decide) (by decide +kernel)), rfl⟩
theorem eL_law_2495 : dc mL_law 2495 (.iload 4) 2 2497 := ⟨d_iload (bL (p := 2495) (v := 21) (by decide) (by decide +kernel)) (bL (p := 2496) (v := 4) (by decide) (by decide +kernel)), rfl⟩
theorem eL_law_2497 : dc mL_law 2497 (.iconst 5) 1 2498 := ⟨d_iconst_5 (bL (p := 2497) (v := 8) (by decide) (by decide +kernel)), rfl⟩
theorem eL_law_2498 : dc mL_law 2498 (.iadd) 1 2499 := ⟨d_iadd (bL (p := 2498) (v := 96) (by decide) (by decide +kernel)), rfl⟩
theorem eL_law_2499 : dc mL_law 2499 (.iaload) 1 2500 := ⟨d_iaload (bL (p := 2499) (v := 46) (by decide) (by decide +kernel)), rfl⟩
theorem eL_law_2500 : dc mL_law 2500 (.aload_n 0) 1 2501 := ⟨d_aload_0 (bL (p := 2500) (v := 42) (by decide) (by decide +kernel)), rfl⟩
theorem eL_law_2501 : dc mL_law 2501 (.iload 4) 2 2503 := ⟨d_iload (bL (p := 2501) (v := 21) (by decide) (by decide +kernel)) (bL (p := 2502) (v := 4) (by decide) (by decide +kernel)), rfl⟩
theorem eL_law_2503 : dc mL_law 2503 (.bipush 6) 2 2505 := ⟨d_bipush (bL (p := 2503) (v := 16) (by decide) (by decide +kernel)) (bL (p := 2504) (v := 6) (by decide) (by decide +kernel)) (by decide +kernel), rfl⟩
theorem eL_law_2505 : dc mL_law 2505 (.iadd) 1 2506 := ⟨d_iadd (bL (p := 2505) (v := 96) (by decide) (by decide +kernel)), rfl⟩
theorem eL_law_2506 : dc mL_law 2506 (.iaload) 1 2507 := ⟨d_iaload (bL (p := 2506) (v := 46) (by decide) (by decide +kernel)), rfl⟩
theorem eL_law_2507 : dc mL_law 2507 (.aload_n 0) 1 2508 := ⟨d_aload_0 (bL (p := 2507) (v := 42) (by decide) (by decide +kernel)), rfl⟩
theorem eL_law_2508 : dc mL_law 2508 (.iload 4) 2 2510 := ⟨d_iload (bL (p := 2508) (v := 21) (by decide) (by decide +kernel)) (bL (p := 2509) (v := 4) (by decide) (by decide +kernel)), rfl⟩
theorem eL_law_2510 : dc mL_law 2510 (.bipush 7) 2 2512 := ⟨d_bipush (bL (p := 2510) (v := 16) (by decide) (by decide +kernel)) (bL (p := 2511) (v := 7) (by decide) (by decide +kernel)) (by decide +kernel), rfl⟩
theorem eL_law_2512 : dc mL_law 2512 (.iadd) 1 2513 := ⟨d_iadd (bL (p := 2512) (v := 96) (by decide) (by decide +kernel)), rfl⟩
theorem eL_law_2513 : dc mL_law 2513 (.iaload) 1 2514 := ⟨d_iaload (bL (p := 2513) (v := 46) (by decide) (by decide +kernel)), rfl⟩
theorem eL_law_2514 : dc mL_law 2514 (.ifCond .eq 7) 3 2517 := ⟨d_ifCond_eq (bL (p := 2514) (v := 153) (by decide) (by decide +kernel)) (bL (p := 2515) (v := 0) (by decide) (by decide +kernel)) (bL (p := 2516) (v := 7) (by decide) (by decide +kernel)) (by decide +kernel), rfl⟩
theorem eL_law_2517 : dc mL_law 2517 (.iconst 1) 1 2518 := ⟨d_iconst_1 (bL (p := 2517) (v := 4) (by decide) (by decide +kernel)), rfl⟩
theorem eL_law_2518 : dc mL_law 2518 (.goto 4) 3 2521 := ⟨d_goto (bL (p := 2518) (v := 167) (by decide) (by decide +kernel)) (bL (p := 2519) (v := 0) (by decide) (by decide +kernel)) (bL (p := 2520) (v := 4) (by decide) (by decide +kernel)) (by decide +kernel), rfl⟩
theorem eL_law_2521 : dc mL_law 2521 (.iconst 0) 1 2522 := ⟨d_iconst_0 (bL (p := 2521) (v := 3) (by decide) (by decide +kernel)), rfl⟩
theorem eL_law_2522 : dc mL_law 2522 (.aload_n 3) 1 2523 := ⟨d_aload_3 (bL (p := 2522) (v := 45) (by decide) (by decide +kernel)), rfl⟩
theorem eL_law_2523 : dc mL_law 2523 (.invokestatic 230) 3 2526 := ⟨d_invokestatic (bL (p := 2523) (v := 184) (by decide) (by decide +kernel)) (bL (p := 2524) (v := 0) (by decide) (by decide +kernel)) (bL (p := 2525) (v := 230) (by decide) (by decide +kernel)) (by decide), rfl⟩
theorem eL_law_2526 : dc mL_law 2526 (.istore 5) 2 2528 := ⟨d_istore (bL (p := 2526) (v := 54) (by decide) (by decide +kernel)) (bL (p := 2527) (v := 5) (by decide) (by decide +kernel)), rfl⟩
theorem eL_law_2528 : dc mL_law 2528 (.aload_n 2) 1 2529 := ⟨d_aload_2 (bL (p := 2528) (v := 44) (by decide) (by decide +kernel)), rfl⟩
theorem eL_law_2529 : dc mL_law 2529 (.aload_n 0) 1 2530 := ⟨d_aload_0 (bL (p := 2529) (v := 42) (by decide) (by decide +kernel)), rfl⟩
theorem eL_law_2530 : dc mL_law 2530 (.iload 4) 2 2532 := ⟨d_iload (bL (p := 2530) (v := 21) (by decide) (by decide +kernel)) (bL (p := 2531) (v := 4) (by decide) (by decide +kernel)), rfl⟩
theorem eL_law_2532 : dc mL_law 2532 (.iconst 1) 1 2533 := ⟨d_iconst_1 (bL (p := 2532) (v := 4) (by decide) (by decide +kernel)), rfl⟩
theorem eL_law_2533 : dc mL_law 2533 (.iadd) 1 2534 := ⟨d_iadd (bL (p := 2533) (v := 96) (by decide) (by decide +kernel)), rfl⟩
theorem eL_law_2534 : dc mL_law 2534 (.iaload) 1 2535 := ⟨d_iaload (bL (p := 2534) (v := 46) (by decide) (by decide +kernel)), rfl⟩
theorem eL_law_2535 : dc mL_law 2535 (.aload_n 0) 1 2536 := ⟨d_aload_0 (bL (p := 2535) (v := 42) (by decide) (by decide +kernel)), rfl⟩
theorem eL_law_2536 : dc mL_law 2536 (.iload 4) 2 2538 := ⟨d_iload (bL (p := 2536) (v := 21) (by decide) (by decide +kernel)) (bL (p := 2537) (v := 4) (by decide) (by decide +kernel)), rfl⟩
theorem eL_law_2538 : dc mL_law 2538 (.iconst 2) 1 2539 := ⟨d_iconst_2 (bL (p := 2538) (v := 5) (by decide) (by decide +kernel)), rfl⟩
theorem eL_law_2539 : dc mL_law 2539 (.iadd) 1 2540 := ⟨d_iadd (bL (p := 2539) (v := 96) (by decide) (by decide +kernel)), rfl⟩
theorem eL_law_2540 : dc mL_law 2540 (.iaload) 1 2541 := ⟨d_iaload (bL (p := 2540) (v := 46) (by decide) (by decide +kernel)), rfl⟩
theorem eL_law_2541 : dc mL_law 2541 (.aload_n 0) 1 2542 := ⟨d_aload_0 (bL (p := 2541) (v := 42) (by decide) (by decide +kernel)), rfl⟩
theorem eL_law_2542 : dc mL_law 2542 (.iload 4) 2 2544 := ⟨d_iload (bL (p := 2542) (v := 21) (by decide) (by decide +kernel)) (bL (p := 2543) (v := 4) (by decide) (by decide +kernel)), rfl⟩
theorem eL_law_2544 : dc mL_law 2544 (.iconst 3) 1 2545 := ⟨d_iconst_3 (bL (p := 2544) (v := 6) (by decide) (by decide +kernel)), rfl⟩
theorem eL_law_2545 : dc mL_law 2545 (.iadd) 1 2546 := ⟨d_iadd (bL (p := 2545) (v := 96) (by decide) (by decide +kernel)), rfl⟩
theorem eL_law_2546 : dc mL_law 2546 (.iaload) 1 2547 := ⟨d_iaload (bL (p := 2546) (v := 46) (by decide) (by decide +kernel)), rfl⟩
theorem eL_law_2547 : dc mL_law 2547 (.aload_n 0) 1 2548 := ⟨d_aload_0 (bL (p := 2547) (v := 42) (by decide) (by decide +kernel)), rfl⟩
theorem eL_law_2548 : dc mL_law 2548 (.iload 4) 2 2550 := ⟨d_iload (bL (p := 2548) (v := 21) (by decide) (by decide +kernel)) (bL (p := 2549) (v := 4) (by decide) (by decide +kernel)), rfl⟩
theorem eL_law_2550 : dc mL_law 2550 (.iconst 4) 1 2551 := ⟨d_iconst_4 (bL (p := 2550) (v := 7) (by decide) (by decide +kernel)), rfl⟩
theorem eL_law_2551 : dc mL_law 2551 (.iadd) 1 2552 := ⟨d_iadd (bL (p := 2551) (v := 96) (by decide) (by decide +kernel)), rfl⟩
theorem eL_law_2552 : dc mL_law 2552 (.iaload) 1 2553 := ⟨d_iaload (bL (p := 2552) (v := 46) (by decide) (by decide +kernel)), rfl⟩
theorem eL_law_2553 : dc mL_law 2553 (.aload_n 0) 1 2554 := ⟨d_aload_0 (bL (p := 2553) (v := 42) (by decide) (by decide +kernel)), rfl⟩
theorem eL_law_2554 : dc mL_law 2554 (.iload 4) 2 2556 := ⟨d_iload (bL (p := 2554) (v := 21) (by decide) (by decide +kernel)) (bL (p := 2555) (v := 4) (by decide) (by decide +kernel)), rfl⟩
theorem eL_law_2556 : dc mL_law 2556 (.iconst 5) 1 2557 := ⟨d_iconst_5 (bL (p := 2556) (v := 8) (by decide) (by decide +kernel)), rfl⟩
theorem eL_law_2557 : dc mL_law 2557 (.iadd) 1 2558 := ⟨d_iadd (bL (p := 2557) (v := 96) (by decide) (by decide +kernel)), rfl⟩
theorem eL_law_2558 : dc mL_law 2558 (.iaload) 1 2559 := ⟨d_iaload (bL (p := 2558) (v := 46) (by decide) (by decide +kernel)), rfl⟩
theorem eL_law_2559 : dc mL_law 2559 (.aload_n 0) 1 2560 := ⟨d_aload_0 (bL (p := 2559) (v := 42) (by decide) (by decide +kernel)), rfl⟩
theorem eL_law_2560 : dc mL_law 2560 (.iload 4) 2 2562 := ⟨d_iload (bL (p := 2560) (v := 21) (by decide) (by decide +kernel)) (bL (p := 2561) (v := 4) (by decide) (by decide +kernel)), rfl⟩
theorem eL_law_2562 : dc mL_law 2562 (.bipush 6) 2 2564 := ⟨d_bipush (bL (p := 2562) (v := 16) (by decide) (by decide +kernel)) (bL (p := 2563) (v := 6) (by decide) (by decide +kernel)) (by decide +kernel), rfl⟩
theorem eL_law_2564 : dc mL_law 2564 (.iadd) 1 2565 := ⟨d_iadd (bL (p := 2564) (v := 96) (by decide) (by decide +kernel)), rfl⟩
theorem eL_law_2565 : dc mL_law 2565 (.iaload) 1 2566 := ⟨d_iaload (bL (p := 2565) (v := 46) (by decide) (by decide +kernel)), rfl⟩
theorem eL_law_2566 : dc mL_law 2566 (.aload_n 0) 1 2567 := ⟨d_aload_0 (bL (p := 2566) (v := 42) (by decide) (by decide +kernel)), rfl⟩
theorem eL_law_2567 : dc mL_law 2567 (.iload 4) 2 2569 := ⟨d_iload (bL (p := 2567) (v := 21) (by decide) (by decide +kernel)) (bL (p := 2568) (v := 4) (by decide) (by decide +kernel)), rfl⟩
theorem eL_law_2569 : dc mL_law 2569 (.bipush 7) 2 2571 := ⟨d_bipush (bL (p := 2569) (v := 16) (by decide) (by decide +kernel)) (bL (p := 2570) (v := 7) (by decide) (by decide +kernel)) (by decide +kernel), rfl⟩
theorem eL_law_2571 : dc mL_law 2571 (.iadd) 1 2572 := ⟨d_iadd (bL (p := 2571) (v := 96) (by decide) (by decide +kernel)), rfl⟩
theorem eL_law_2572 : dc mL_law 2572 (.iaload) 1 2573 := ⟨d_iaload (bL (p := 2572) (v := 46) (by decide) (by decide +kernel)), rfl⟩
theorem eL_law_2573 : dc mL_law 2573 (.ifCond .eq 7) 3 2576 := ⟨d_ifCond_eq (bL (p := 2573) (v := 153) (by decide) (by decide +kernel)) (bL (p := 2574) (v := 0) (by decide) (by decide +kernel)) (bL (p := 2575) (v := 7) (by decide) (by decide +kernel)) (by decide +kernel), rfl⟩
