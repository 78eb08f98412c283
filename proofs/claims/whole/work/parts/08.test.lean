theorem zz1 : (vx_atS RX8 252 "java/lang/IndexOutOfBoundsException" ["java/lang/RuntimeException", "java/lang/Exception"]).all m_in = true := by decide +kernel
theorem zz2 : (vx_atS RX8 101 "java/lang/IllegalArgumentException" ["java/lang/RuntimeException", "java/lang/Exception"]).all m_in = true := by decide +kernel
