theorem zck112_0 : zco112_0.all (zchk 112) = true := by decide +kernel
theorem zck112_1 : zco112_1.all (zchk 112) = true := by decide +kernel
theorem zck112 : zco112.all (zchk 112) = true := zall_app zck112_0 (zck112_1)
theorem zck113 : zco113.all (zchk 113) = true := by decide +kernel
theorem zck114_0 : zco114_0.all (zchk 114) = true := by decide +kernel
theorem zck114_1 : zco114_1.all (zchk 114) = true := by decide +kernel
theorem zck114_2 : zco114_2.all (zchk 114) = true := by decide +kernel
theorem zck114 : zco114.all (zchk 114) = true := zall_app zck114_0 (zall_app zck114_1 (zck114_2))
theorem zck115_0 : zco115_0.all (zchk 115) = true := by decide +kernel
theorem zck115_1 : zco115_1.all (zchk 115) = true := by decide +kernel
theorem zck115 : zco115.all (zchk 115) = true := zall_app zck115_0 (zck115_1)
theorem zck116 : zco116.all (zchk 116) = true := by decide +kernel
theorem zck117_0 : zco117_0.all (zchk 117) = true := by decide +kernel
theorem zck117_1 : zco117_1.all (zchk 117) = true := by decide +kernel
theorem zck117_2 : zco117_2.all (zchk 117) = true := by decide +kernel
theorem zck117_3 : zco117_3.all (zchk 117) = true := by decide +kernel
theorem zck117 : zco117.all (zchk 117) = true := zall_app zck117_0 (zall_app zck117_1 (zall_app zck117_2 (zck117_3)))
theorem zck118 : zco118.all (zchk 118) = true := by decide +kernel
theorem zck119_0 : zco119_0.all (zchk 119) = true := by decide +kernel
theorem zck119_1 : zco119_1.all (zchk 119) = true := by decide +kernel
theorem zck119_2 : zco119_2.all (zchk 119) = true := by decide +kernel
theorem zck119 : zco119.all (zchk 119) = true := zall_app zck119_0 (zall_app zck119_1 (zck119_2))
theorem zck120 : zco120.all (zchk 120) = true := by decide +kernel
theorem zck121 : zco121.all (zchk 121) = true := by decide +kernel
theorem zck122_0 : zco122_0.all (zchk 122) = true := by decide +kernel
theorem zck122_1 : zco122_1.all (zchk 122) = true := by decide +kernel
theorem zck122_2 : zco122_2.all (zchk 122) = true := by decide +kernel
theorem zck122 : zco122.all (zchk 122) = true := zall_app zck122_0 (zall_app zck122_1 (zck122_2))
theorem zck123_0 : zco123_0.all (zchk 123) = true := by decide +kernel
theorem zck123_1 : zco123_1.all (zchk 123) = true := by decide +kernel
theorem zck123 : zco123.all (zchk 123) = true := zall_app zck123_0 (zck123_1)
theorem zck124_0 : zco124_0.all (zchk 124) = true := by decide +kernel
theorem zck124_1 : zco124_1.all (zchk 124) = true := by decide +kernel
theorem zck124 : zco124.all (zchk 124) = true := zall_app zck124_0 (zck124_1)
theorem zck125 : zco125.all (zchk 125) = true := by decide +kernel
theorem zck126 : zco126.all (zchk 126) = true := by decide +kernel
theorem zck127 : zco127.all (zchk 127) = true := by decide +kernel
theorem zck128_0 : zco128_0.all (zchk 128) = true := by decide +kernel
theorem zck128_1 : zco128_1.all (zchk 128) = true := by decide +kernel
theorem zck128 : zco128.all (zchk 128) = true := zall_app zck128_0 (zck128_1)
theorem zck129 : zco129.all (zchk 129) = true := by decide +kernel
theorem zck130_0 : zco130_0.all (zchk 130) = true := by decide +kernel
theorem zck130_1 : zco130_1.all (zchk 130) = true := by decide +kernel
theorem zck130_2 : zco130_2.all (zchk 130) = true := by decide +kernel
theorem zck130_3 : zco130_3.all (zchk 130) = true := by decide +kernel
theorem zck130 : zco130.all (zchk 130) = true := zall_app zck130_0 (zall_app zck130_1 (zall_app zck130_2 (zck130_3)))
theorem zck131 : zco131.all (zchk 131) = true := by decide +kernel
theorem zck132 : zco132.all (zchk 132) = true := by decide +kernel
theorem zck133_0 : zco133_0.all (zchk 133) = true := by decide +kernel
theorem zck133_1 : zco133_1.all (zchk 133) = true := by decide +kernel
theorem zck133 : zco133.all (zchk 133) = true := zall_app zck133_0 (zck133_1)
theorem zck134 : zco134.all (zchk 134) = true := by decide +kernel
theorem zck135 : zco135.all (zchk 135) = true := by decide +kernel
theorem zck136_0 : zco136_0.all (zchk 136) = true := by decide +kernel
theorem zck136_1 : zco136_1.all (zchk 136) = true := by decide +kernel
theorem zck136_2 : zco136_2.all (zchk 136) = true := by decide +kernel
theorem zck136 : zco136.all (zchk 136) = true := zall_app zck136_0 (zall_app zck136_1 (zck136_2))
theorem zck137 : zco137.all (zchk 137) = true := by decide +kernel
theorem zck138 : zco138.all (zchk 138) = true := by decide +kernel
theorem zck139 : zco139.all (zchk 139) = true := by decide +kernel
theorem zck140 : zco140.all (zchk 140) = true := by decide +kernel
theorem zck141_0 : zco141_0.all (zchk 141) = true := by decide +kernel
theorem zck141_1 : zco141_1.all (zchk 141) = true := by decide +kernel
theorem zck141_2 : zco141_2.all (zchk 141) = true := by decide +kernel
theorem zck141 : zco141.all (zchk 141) = true := zall_app zck141_0 (zall_app zck141_1 (zck141_2))
